import java.nio.charset.StandardCharsets;

/** What the tests share: counting wrong answers, and feeding a text. */
final class Check {
    static final int NOWHERE = -1000000;
    static final String ROD = "rod inches 4 wall 100 bush 1;";
    static final String LIP = "lip 10 oil 2 room 5 bears 300;";
    static final String COSTS = "costs inch 12 lip 7 draw 5;";
    static final String WAY = "way d push 10 hold 0 force 10;";
    static final String BASE = ROD + LIP + COSTS + WAY
        + "hard 2 by 4 up;from 0 feed 2 way d;from 3 feed 1 way d draw sharpen;seer o sees 3";

    private static int asked = 0;
    private static int wrong = 0;

    private Check() {
    }

    static void due(String call, long got, long want) {
        asked++;
        if (got != want) {
            wrong++;
            if (wrong <= 50) {
                System.out.println(call + " answered " + got + ", due is " + want);
            }
        }
    }

    static void due(String call, boolean got, boolean want) {
        due(call, got ? 1 : 0, want ? 1 : 0);
    }

    /** A call that is refused: its answer and its trouble. */
    static void refused(DeepHole x, String call, long got, long want, int trouble) {
        due(call, got, want);
        due(call + ", trouble()", x.trouble(), trouble);
    }

    static void refused(DeepHole x, String call, long got, int trouble) {
        refused(x, call, got, DeepHole.NONE, trouble);
    }

    /** A call that is not refused. */
    static void granted(DeepHole x, String call, long got, long want) {
        refused(x, call, got, want, 0);
    }

    static void leds(DeepHole x, int... inches) {
        for (int i = 0; i < inches.length; i++) {
            due("led(" + i + ")", ledOf(x, i), inches[i]);
        }
        due("led(-1) throws", ledOf(x, -1), -5);
        due("led behind the last throws", ledOf(x, inches.length), -5);
    }

    /** -5 if it throws. */
    static int ledOf(DeepHole x, int i) {
        try {
            return x.led(i);
        } catch (java.util.NoSuchElementException e) {
            return -5;
        }
    }

    static void end(String test) {
        System.out.println(test + ": " + asked + " answers, " + wrong + " wrong");
        if (wrong != 0) {
            System.exit(1);
        }
    }

    /** Feeds a text, with blanks behind it up to a multiple of twenty bytes. */
    static void feedText(DeepHole x, String text) {
        byte[] bytes = text.getBytes(StandardCharsets.ISO_8859_1);
        for (int at = 0; at < bytes.length; at += 20) {
            int[] n = new int[5];
            for (int i = 0; i < 20; i++) {
                int b = at + i < bytes.length ? bytes[at + i] & 255 : 32;
                n[i / 4] = n[i / 4] << 8 | b;
            }
            x.feed(n[0], n[1], n[2], n[3], n[4]);
        }
    }

    static int told(DeepHole x, String text) {
        feedText(x, text);
        return x.shop(text.length());
    }

    static DeepHole shop(String text) {
        DeepHole x = new DeepHole();
        if (told(x, text) < 0) {
            due("shop of " + text + " (fault " + x.fault() + " at " + x.where() + ")", -1, 0);
        }
        return x;
    }
}
