import java.nio.file.Files;
import java.nio.file.Path;
import java.util.regex.Matcher;
import java.util.regex.Pattern;

/** What LANGUAGE.md forbids and a plain look at the source can find. */
public final class LanguageTest {
    private static final String[] FORBIDDEN = {
        "->", "::", "\\bsynchronized\\b", "\\bassert\\b", "\\bfinally\\b", "\\bcatch\\b", "\\btry\\b",
        "\\bThread\\b", "\\bSystem\\.(?!arraycopy)", "\\bRandom\\b", "\\bMath\\.(?!floorDiv|floorMod|max|min|abs)",
        "Exact\\(", "\\bdouble\\b", "\\bfloat\\b", "\\bprotected\\b", "\\bpackage\\b", "\\bString\\.", "\\bObject\\b",
        "\\bimport (?!java\\.util\\.NoSuchElementException;)", "\\bwhile \\(true\\)", "for \\(;;\\)",
        "static \\{", "throw new (?!NoSuchElementException\\(\\))"};

    public static void main(String[] args) throws Exception {
        String path = System.getenv("DEEP_HOLE_SOURCE");
        String source = Files.readString(Path.of(path == null ? "src/main/java/DeepHole.java" : path));
        String code = source.replaceAll("(?s)/\\*.*?\\*/", "").replaceAll("//[^\n]*", "");
        for (String form : FORBIDDEN) {
            Matcher m = Pattern.compile(form).matcher(code);
            boolean found = m.find();
            Check.due("found " + form, found, false);
        }
        Check.due("a text joined by +", Pattern.compile("\"\\s*\\+|\\+\\s*\"").matcher(code).find(), false);
        for (char sign : source.toCharArray()) {
            if (sign != '\n' && (sign < 32 || sign > 126)) {
                Check.due("a strange sign", sign, 32);
            }
        }
        methodsAreShort(source);
        Check.end("LanguageTest");
    }

    /** A method begins and ends at the indentation of its class's members. */
    private static void methodsAreShort(String source) {
        String[] lines = source.split("\n");
        for (int indent = 4; indent <= 8; indent += 4) {
            String front = " ".repeat(indent);
            int began = -1;
            for (int i = 0; i < lines.length; i++) {
                boolean isMember = lines[i].startsWith(front) && !lines[i].startsWith(front + " ");
                if (isMember && lines[i].endsWith(") {")) {
                    began = i;
                } else if (isMember && lines[i].equals(front + "}") && began >= 0) {
                    Check.due("lines of the method at " + (began + 1), i - began < 60, true);
                    began = -1;
                }
            }
        }
    }
}
