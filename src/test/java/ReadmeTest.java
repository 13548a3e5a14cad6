import java.lang.reflect.InvocationTargetException;
import java.lang.reflect.Method;
import java.lang.reflect.Modifier;
import java.nio.file.Files;
import java.nio.file.Path;
import java.util.Map;
import java.util.TreeMap;
import java.util.regex.Matcher;
import java.util.regex.Pattern;

/** README.md: each line with an answer behind it answers so, and no call of the face is left out. */
public final class ReadmeTest {
    private static final Pattern BLOCK = Pattern.compile("(?s)```(java|text)\n(.*?)```");
    private static final Pattern LINE = Pattern.compile("(?m)^hole\\.(\\w+)\\((.*?)\\); +// (.*)$");

    private final DeepHole hole = new DeepHole();
    private final Map<String, Method> face = new TreeMap<>();
    private final Map<String, Method> left = new TreeMap<>();

    public static void main(String[] args) throws Exception {
        String told = System.getenv("DEEP_HOLE_README");
        String page = Files.readString(Path.of(told == null ? "README.md" : told));
        new ReadmeTest().goThrough(page);
        Check.end("ReadmeTest");
    }

    private void goThrough(String page) throws Exception {
        for (Method m : DeepHole.class.getDeclaredMethods()) {
            if (Modifier.isPublic(m.getModifiers())) {
                face.put(m.getName(), m);
            }
        }
        left.putAll(face);
        Matcher block = BLOCK.matcher(page);
        while (block.find()) {
            if (block.group(1).equals("text")) {
                Check.feedText(hole, block.group(2).replace("\n", ""));
            } else {
                goThroughLines(block.group(2));
            }
        }
        Check.due("calls that README doesn't show: " + left.keySet(), left.size(), 0);
    }

    private void goThroughLines(String lines) throws Exception {
        Matcher line = LINE.matcher(lines);
        while (line.find()) {
            Method call = face.get(line.group(1));
            left.remove(line.group(1));
            String got = call == null ? "no such call" : answer(call, line.group(2));
            Check.due("README: " + line.group() + " but it is " + got, got.equals(line.group(3)), true);
        }
    }

    private String answer(Method call, String numbers) throws Exception {
        String[] told = numbers.isEmpty() ? new String[0] : numbers.split(", ");
        if (told.length != call.getParameterCount()) {
            return "wrong numbers";
        }
        Object[] values = new Object[told.length];
        for (int i = 0; i < told.length; i++) {
            boolean isFlag = call.getParameterTypes()[i] == boolean.class;
            values[i] = isFlag ? (Object) Boolean.valueOf(told[i]) : Integer.decode(told[i]);
        }
        try {
            return String.valueOf(call.invoke(hole, values));
        } catch (InvocationTargetException e) {
            return e.getCause().getClass().getSimpleName();
        }
    }
}
