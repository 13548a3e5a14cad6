import java.util.ArrayList;
import java.util.List;
import java.util.NoSuchElementException;
import java.util.Random;

/** Runs of calls, made with fixed seeds, on DeepHole and on Model side by side. */
public final class ModelTest {
    private static final String[] SIDES = {"right", "up", "left", "down"};
    private static final String[] ODD = {
        " ", ";", ",", "rod", "way", "from", "draw", "sharpen", "x", "abcdefghi", "1000", "31", "0", ".", "seer q"};

    private final Random random;
    private final DeepHole hole = new DeepHole();
    private final Model model = new Model();
    private final StringBuilder log = new StringBuilder();
    private int inches = 10;

    private ModelTest(long seed) {
        random = new Random(seed);
    }

    public static void main(String[] args) {
        int runs = args.length > 0 ? Integer.parseInt(args[0]) : 200;
        long seed = args.length > 1 ? Long.parseLong(args[1]) : 1;
        for (int run = 0; run < runs; run++) {
            // with what feeds it, some 500 of the 512 calls that an object is good for
            if (!new ModelTest(seed * 1000003 + run).run(90)) {
                break;
            }
        }
        Check.end("ModelTest");
    }

    /** Stops at the first answer that differs. */
    private boolean run(int calls) {
        if (random.nextInt(8) != 0) {
            tell(text());
        }
        for (int i = 0; i < calls; i++) {
            int call = random.nextInt(64);
            if (!same(call)) {
                return false;
            }
            log.append(" .trouble");
            boolean troubles = due(hole.trouble(), model.trouble()) && due(hole.where(), model.where())
                && due(hole.fault(), model.fault());
            if (!troubles) {
                return false;
            }
        }
        return true;
    }

    private int upTo(int n) {
        return random.nextInt(n + 1);
    }

    /** Mostly within the bounds, at times one or more beyond them. */
    private int near(int low, int high) {
        switch (random.nextInt(20)) {
            case 0: return low - 1;
            case 1: return high + 1;
            case 2: return random.nextInt();
            case 3: return low;
            case 4: return high;
            default: return low + upTo(high - low);
        }
    }

    private boolean due(long got, long want) {
        if (got != want) {
            Check.due(log.toString(), got, want);
            return false;
        }
        Check.due("", 0, 0);
        return true;
    }

    private boolean say(String call, int... numbers) {
        log.append("\n").append(call);
        for (int n : numbers) {
            log.append(' ').append(n);
        }
        return true;
    }

    private boolean same(int call) {
        int i = near(0, inches - 1);
        int a;
        int b;
        boolean flag = random.nextBoolean();
        switch (call) {
            case 0:
                return random.nextInt(4) != 0 || tell(text());
            case 1:
                return tell(spoilt(text()));
            case 2:
                say("rod", flag ? 1 : 0);
                return due(hole.rod(flag) ? 1 : 0, model.rod(flag) ? 1 : 0);
            case 3: case 4: case 5:
                a = random.nextBoolean() ? 30 : near(1, 30);
                say("drill", a);
                return due(hole.drill(a), model.drill(a));
            case 6: case 7: case 8:
                a = near(0, 6);
                say("inch", i, a);
                return due(hole.inch(i, a), model.inch(i, a));
            case 9: case 10: case 11:
                a = near(0, 10);
                say("state", a);
                return due(hole.state(a), model.state(a));
            case 12: case 13:
                a = random.nextInt(10) == 0 ? near(1, 9) : near(1, 6);
                b = random.nextBoolean() ? near(0, 999) : near(0, 30);
                say("odds", a, b);
                return due(hole.odds(a, b), model.odds(a, b));
            case 14:
                a = near(1, 9);
                say("rows", a);
                return due(hole.rows(a), model.rows(a));
            case 15: case 16:
                a = random.nextInt(20) == 0 ? near(1, 7) : near(1, 4);
                b = random.nextBoolean() ? near(0, 999) : near(0, 30);
                say("cheapest", a, b);
                return due(hole.cheapest(a, b), model.cheapest(a, b));
            case 17: case 18:
                a = near(0, 6);
                say("feedAt", a);
                return due(hole.feedAt(a), model.feedAt(a));
            case 19: case 20: case 21:
                a = near(1, inches - 1);
                say("met", a);
                return due(hole.met(a), model.met(a));
            case 22:
                say("meet");
                return due(hole.meet(), model.meet());
            default:
                return call < 42 ? sameLater(call, i) : sameLast(call, i, flag);
        }
    }

    private boolean sameLater(int call, int i) {
        int a;
        int b;
        switch (call) {
            case 23: case 24: case 25:
                a = fitting(i);
                say("felt", i, a);
                return due(hole.felt(i, a), model.felt(i, a));
            case 26:
                say("forget");
                return due(hole.forget(), model.forget());
            case 27: case 28:
                say("causes");
                return due(hole.causes(), model.causes());
            case 29: case 30: case 31:
                a = random.nextInt(3) == 0 ? near(0, 8 * (inches + 1) - 1) : near(0, 6);
                b = near(0, 2);
                say("cause", a, b);
                return due(hole.cause(a, b), model.cause(a, b));
            case 32: case 33:
                a = near(0, 2);
                say("sure", a);
                return due(hole.sure(a), model.sure(a));
            case 34: case 35: case 36:
                a = near(0, 2);
                say("ring", a);
                return due(hole.ring(a), model.ring(a));
            case 37: case 38:
                a = near(0, 3);
                say("sees", a);
                return due(hole.sees(a), model.sees(a));
            default:
                a = near(0, 3);
                b = random.nextBoolean() ? near(1, 99) : near(1, 9);
                say("blow", i, a, b);
                return due(hole.blow(i, a, b), model.blow(i, a, b));
        }
    }

    private boolean sameLast(int call, int i, boolean flag) {
        int a;
        int b;
        switch (call) {
            case 42: case 43: case 44: case 45:
                a = random.nextBoolean() ? near(1, 99) : near(1, 12);
                b = random.nextBoolean() ? near(0, 999) : near(0, 12);
                say("fewest", a, b);
                return due(hole.fewest(a, b), model.fewest(a, b));
            case 46: case 47: case 48:
                a = near(0, 1);
                say("stroke", a);
                return due(hole.stroke(a), model.stroke(a));
            case 49:
                say("heat");
                return due(hole.heat(), model.heat());
            case 50: case 51:
                say("about");
                return due(hole.about(), model.about());
            case 52: case 53:
                a = random.nextBoolean() ? near(-999, 999) : near(-40, 40);
                b = random.nextInt(4) == 0 ? near(-999, 999) : a + upTo(random.nextBoolean() ? 30 : 1);
                say("wall", i, a, b);
                return due(hole.wall(i, a, b) ? 1 : 0, model.wall(i, a, b) ? 1 : 0);
            case 54:
                say("clear");
                return due(hole.clear(), model.clear());
            case 55: case 56: case 57:
                a = random.nextBoolean() ? near(0, 99) : near(0, 5);
                say("lies", i, a, flag ? 1 : 0);
                return due(hole.lies(i, a, flag), model.lies(i, a, flag));
            case 58:
                a = random.nextBoolean() ? near(0, 99) : near(0, 5);
                say("next", a);
                return due(hole.next(a), model.next(a));
            case 59: case 60:
                a = near(0, 4);
                say("led", a);
                return due(Check.ledOf(hole, a), ledOf(a));
            default:
                say("off", i, flag ? 1 : 0);
                return due(hole.off(i, flag), model.off(i, flag));
        }
    }

    private int ledOf(int i) {
        try {
            return model.led(i);
        } catch (NoSuchElementException e) {
            return -5;
        }
    }

    /** Often a FORCE that really came there, so that some CAUSES fit. */
    private int fitting(int i) {
        int came = i >= 0 && i < hole.state(0) ? hole.inch(i, 2) : -1;
        if (came >= 0) {
            model.inch(i, 2);
        }
        return came >= 0 && random.nextInt(6) != 0 ? came : near(0, 9999);
    }

    private boolean tell(String text) {
        say("told " + text);
        byte[] bytes = text.getBytes(java.nio.charset.StandardCharsets.ISO_8859_1);
        for (int at = 0; at < bytes.length; at += 20) {
            int[] n = new int[5];
            for (int i = 0; i < 20; i++) {
                n[i / 4] = n[i / 4] << 8 | (at + i < bytes.length ? bytes[at + i] & 255 : 32);
            }
            if (!due(hole.feed(n[0], n[1], n[2], n[3], n[4]), model.feed(n))) {
                return false;
            }
        }
        int length = random.nextInt(12) == 0 ? near(0, text.length()) : text.length();
        say("shop", length);
        return due(hole.shop(length), model.shop(length)) && due(hole.fault(), model.fault())
            && due(hole.where(), model.where());
    }

    private String spoilt(String text) {
        int at = upTo(text.length());
        int behind = Math.min(text.length(), at + upTo(3));
        switch (random.nextInt(4)) {
            case 0: return text.substring(0, at);
            case 1: return text.substring(0, at) + text.substring(behind);
            case 2: return text.substring(0, at) + ODD[random.nextInt(ODD.length)] + text.substring(behind);
            default:
                String[] lines = text.split(";");
                int line = random.nextInt(lines.length);
                int other = random.nextInt(lines.length);
                lines[line] = random.nextBoolean() ? lines[other] : lines[line] + ";" + lines[other];
                return String.join(";", lines);
        }
    }

    private String text() {
        List<String> lines = new ArrayList<>();
        inches = random.nextInt(6) == 0 ? 2 + upTo(28) : 3 + upTo(9);
        lines.add("rod inches " + inches + " wall " + (10 + upTo(random.nextBoolean() ? 989 : 100))
            + " bush " + upTo(random.nextBoolean() ? 9 : 2));
        lines.add("lip " + (1 + upTo(98)) + " oil " + upTo(random.nextBoolean() ? 50 : 8) + " room " + upTo(99)
            + " bears " + (random.nextInt(4) == 0 ? 10 + upTo(989) : 700 + upTo(299)));
        lines.add("costs inch " + upTo(99) + " lip " + upTo(99) + " draw " + upTo(99));
        int ways = 1 + upTo(3);
        for (int i = 0; i < ways; i++) {
            lines.add("way w" + (char) ('a' + i) + " push " + upTo(random.nextBoolean() ? 99 : 15)
                + " hold " + upTo(100) + " force " + (1 + upTo(random.nextBoolean() ? 49 : 9)));
        }
        for (int i = upTo(10); i > 0; i--) {
            lines.add("hard " + upTo(random.nextBoolean() ? 29 : inches - 1) + " by " + (1 + upTo(8)) + " "
                + SIDES[random.nextInt(4)]);
        }
        for (int i = upTo(2); i > 0; i--) {
            lines.add("seer s" + (char) ('a' + i) + " sees " + (1 + upTo(random.nextBoolean() ? 98 : 9)));
        }
        int from = 0;
        for (int i = 0; i < 1 + random.nextInt(8) && from < 30; i++) {
            lines.add("from " + from + " feed " + (1 + upTo(random.nextBoolean() ? 8 : 2)) + " way w"
                + (char) ('a' + random.nextInt(ways)) + (random.nextInt(3) == 0 ? " draw" : "")
                + (random.nextInt(3) == 0 ? " sharpen" : ""));
            from += 1 + upTo(3);
        }
        return String.join(random.nextBoolean() ? ";" : " ; ", lines);
    }
}
