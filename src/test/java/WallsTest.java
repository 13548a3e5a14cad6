/** Promises 29 to 32: wall, clear, lies, next. */
public final class WallsTest {
    public static void main(String[] args) {
        wrongInputs();
        unmeasured();
        byLine();
        steps();
        halves();
        impossible();
        told();
        kept();
        twoInches();
        slow();
        Check.end("WallsTest");
    }

    private static DeepHole rod(int inches) {
        return Check.shop(Check.BASE.replace("inches 4", "inches " + inches));
    }

    private static void tell(DeepHole x, int i, int low, int high) {
        Check.granted(x, "wall(" + i + ", " + low + ", " + high + ")", x.wall(i, low, high) ? 1 : 0, 1);
    }

    private static void spans(DeepHole x, int k, int... due) {
        for (int i = 0; i < due.length / 2; i++) {
            Check.granted(x, "lies(" + i + ", " + k + ", false)", x.lies(i, k, false), due[2 * i]);
            Check.granted(x, "lies(" + i + ", " + k + ", true)", x.lies(i, k, true), due[2 * i + 1]);
        }
    }

    private static void wrongInputs() {
        DeepHole x = rod(4);
        Check.refused(x, "wall(4)", x.wall(4, 5, 4) ? 1 : 0, 0, 1);
        Check.refused(x, "wall(-1)", x.wall(-1, 0, 0) ? 1 : 0, 0, 1);
        Check.refused(x, "wall low", x.wall(0, -1000, 0) ? 1 : 0, 0, 2);
        Check.refused(x, "wall high", x.wall(0, 0, 1000) ? 1 : 0, 0, 2);
        Check.refused(x, "wall both low", x.wall(0, -1001, -1000) ? 1 : 0, 0, 2);
        Check.refused(x, "wall both high", x.wall(0, 1000, 1001) ? 1 : 0, 0, 2);
        Check.refused(x, "wall turned", x.wall(0, 1, 0) ? 1 : 0, 0, 2);
        Check.refused(x, "wall least", x.wall(0, Integer.MIN_VALUE, Integer.MAX_VALUE) ? 1 : 0, 0, 2);
        Check.due("none is told", x.clear(), 0);
        Check.refused(x, "lies(4)", x.lies(4, -1, true), Check.NOWHERE, 1);
        Check.refused(x, "lies(-1)", x.lies(-1, 0, true), Check.NOWHERE, 1);
        Check.refused(x, "lies k -1", x.lies(0, -1, true), Check.NOWHERE, 2);
        Check.refused(x, "lies k 100", x.lies(0, 100, true), Check.NOWHERE, 2);
        Check.refused(x, "next(-1)", x.next(-1), 2);
        Check.refused(x, "next(100)", x.next(100), 2);
        tell(x, 0, -999, 999);
        tell(x, 3, 7, 7);
        Check.due("two are told", x.clear(), 2);
        Check.due("none is left", x.clear(), 0);
    }

    private static void unmeasured() {
        DeepHole x = rod(4);
        spans(x, 99, -100, 100, -100, 100, -100, 100, -100, 100);
        spans(x, 0, -100, 100, -100, 100, -100, 100, -100, 100);
        Check.granted(x, "next", x.next(0), 0);
        // a measured span may be wider than the wall, but the others hold it
        tell(x, 1, -999, 999);
        spans(x, 99, -100, 100, -149, 149);
        Check.granted(x, "next is the widest", x.next(99), 1);
        Check.granted(x, "the first of like ones", x.next(0), 0);
    }

    private static void byLine() {
        DeepHole x = rod(4);
        tell(x, 0, 0, 0);
        tell(x, 3, 9, 9);
        spans(x, 0, 0, 0, 3, 3, 6, 6, 9, 9);
        Check.granted(x, "next", x.next(0), 0);
    }

    /** Steps may differ by 2: from 0, 0 the next is within 2, then within 6. */
    private static void steps() {
        DeepHole x = rod(4);
        tell(x, 0, 0, 0);
        tell(x, 1, 0, 0);
        spans(x, 2, 0, 0, 0, 0, -2, 2, -6, 6);
        Check.granted(x, "next", x.next(2), 3);
        tell(x, 3, 5, 20);
        spans(x, 2, 0, 0, 0, 0, 2, 2, 5, 6);
        Check.granted(x, "next", x.next(2), 3);
        x.clear();
        tell(x, 3, 0, 0);
        tell(x, 2, 10, 10);
        spans(x, 1, 27, 33, 19, 21, 10, 10, 0, 0);
        Check.granted(x, "next", x.next(1), 0);
    }

    /** Twice the middle one is between -5 and 5: it is between -2 and 2. */
    private static void halves() {
        DeepHole x = rod(3);
        tell(x, 0, -2, 2);
        tell(x, 2, -3, 3);
        spans(x, 0, -2, 2, -2, 2, -3, 3);
        x.clear();
        tell(x, 0, 1, 1);
        tell(x, 2, 4, 4);
        Check.refused(x, "half a hair", x.lies(0, 0, true), Check.NOWHERE, 6);
        spans(x, 1, 1, 1, 2, 3, 4, 4);
        x.clear();
        tell(x, 0, -4, -4);
        tell(x, 2, -1, -1);
        spans(x, 1, -4, -4, -3, -2, -1, -1);
    }

    private static void impossible() {
        DeepHole x = rod(4);
        tell(x, 0, 0, 0);
        tell(x, 1, 50, 50);
        Check.refused(x, "lies", x.lies(3, 0, true), Check.NOWHERE, 6);
        Check.refused(x, "next", x.next(0), 6);
        Check.refused(x, "next again", x.next(0), 6);
        spans(x, 50, 0, 0, 50, 50, 50, 100, 0, 100);
        Check.refused(x, "lies of no INCH", x.lies(4, 0, true), Check.NOWHERE, 1);
        Check.refused(x, "next of a wrong number", x.next(-1), 2);
    }

    /** What is told of an INCH later stands instead of what was told of it. */
    private static void told() {
        DeepHole x = rod(4);
        tell(x, 0, 0, 5);
        tell(x, 0, 3, 9);
        Check.granted(x, "the latest low", x.lies(0, 99, false), 3);
        Check.granted(x, "the latest high", x.lies(0, 99, true), 9);
        Check.due("one INCH", x.clear(), 1);
        Check.due("clear sets no trouble", x.trouble(), 0);
    }

    private static void kept() {
        DeepHole x = rod(4);
        tell(x, 0, 1, 2);
        x.rod(true);
        x.drill(4);
        x.forget();
        Check.granted(x, "WALLS stay with a new rod", x.lies(0, 9, true), 2);
        Check.granted(x, "another k", x.lies(0, 8, true), 2);
        tell(x, 0, 1, 3);
        Check.granted(x, "told anew", x.lies(0, 8, true), 3);
        x.clear();
        Check.granted(x, "cleared", x.lies(0, 8, true), 100);
    }

    private static void twoInches() {
        DeepHole x = rod(2);
        tell(x, 1, 5, 7);
        spans(x, 0, -100, 100, 5, 7);
        Check.granted(x, "next", x.next(0), 0);
        tell(x, 0, 5, 6);
        Check.granted(x, "next", x.next(0), 1);
    }

    private static void slow() {
        DeepHole x = Check.shop(Check.BASE.replace("inches 4 wall 100", "inches 30 wall 999"));
        tell(x, 0, 0, 0);
        tell(x, 29, 29, 29);
        for (int i = 0; i < 30; i++) {
            Check.granted(x, "a line", x.lies(i, 0, false), i);
            Check.granted(x, "a line", x.lies(i, 0, true), i);
        }
        tell(x, 29, 30, 30);
        Check.refused(x, "no line", x.lies(3, 0, true), Check.NOWHERE, 6);
    }
}
