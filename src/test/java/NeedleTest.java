/** Promises 16 to 20: felt, forget, causes, cause, sure. */
public final class NeedleTest {
    public static void main(String[] args) {
        felt();
        allCauses();
        narrowed();
        breaking();
        notReached();
        outStops();
        Check.end("NeedleTest");
    }

    private static void felt() {
        DeepHole x = Check.shop(Check.BASE);
        Check.refused(x, "felt(-1)", x.felt(-1, 5), 1);
        Check.refused(x, "felt(4)", x.felt(4, 5), 1);
        Check.refused(x, "felt(30)", x.felt(30, 5), 1);
        Check.refused(x, "felt(4, -1)", x.felt(4, -1), 1);
        Check.refused(x, "felt -1", x.felt(0, -1), 2);
        Check.refused(x, "felt 10000", x.felt(0, 10000), 2);
        Check.granted(x, "felt 0", x.felt(0, 0), 1);
        Check.granted(x, "felt 9999", x.felt(3, 9999), 2);
        for (int i = 3; i <= 12; i++) {
            Check.granted(x, "felt", x.felt(1, 5), i);
        }
        Check.refused(x, "felt the 13th", x.felt(1, 5), 3);
        Check.refused(x, "felt a wrong 13th", x.felt(1, -5), 2);
        Check.due("state(4)", x.state(4), 12);
        x.rod(true);
        x.drill(2);
        Check.due("felt stays with a new rod", x.state(4), 12);
        x.heat();
        x.felt(9, 9);
        Check.due("forget()", x.forget(), 12);
        Check.due("forget sets no trouble", x.trouble(), 1);
        Check.due("forget() again", x.forget(), 0);
        Check.due("state(4)", x.state(4), 0);
    }

    /** Nothing felt: four WEARS, two CHIPS, none or one of four INCHES, in that order. */
    private static void allCauses() {
        DeepHole x = Check.shop(Check.BASE);
        Check.granted(x, "causes()", x.causes(), 40);
        for (int i = 0; i < 40; i++) {
            Check.granted(x, "cause WEAR", x.cause(i, 0), 10 * (i / 10));
            Check.granted(x, "cause CHIPS", x.cause(i, 1), 9 * (i / 5 % 2));
            Check.granted(x, "cause INCH", x.cause(i, 2), i % 5 == 0 ? -2 : i % 5 - 1);
        }
        Check.refused(x, "cause(40)", x.cause(40, 0), 1);
        Check.refused(x, "cause(-1)", x.cause(-1, 0), 1);
        Check.refused(x, "cause what 3", x.cause(0, 3), 1);
        Check.refused(x, "cause what -1", x.cause(0, -1), 1);
        Check.refused(x, "sure what 3", x.sure(3), 1);
        Check.refused(x, "sure what -1", x.sure(-1), 1);
        for (int what = 0; what < 3; what++) {
            Check.granted(x, "sure", x.sure(what), -3);
        }
        DeepHole full = Check.shop(Check.BASE.replace("inches 4", "inches 30"));
        Check.granted(full, "causes() of a long rod", full.causes(), 8 * 31);
        Check.granted(full, "the last cause", full.cause(8 * 31 - 1, 2), 29);
    }

    private static void narrowed() {
        DeepHole x = Check.shop(Check.BASE);
        x.rod(true);
        x.felt(0, 20);
        Check.granted(x, "20 at 0: no WEAR, no CHIPS, not INCH 0", x.causes(), 4);
        Check.granted(x, "WEAR is sure", x.sure(0), 0);
        Check.granted(x, "CHIPS are sure", x.sure(1), 0);
        Check.granted(x, "the INCH is not", x.sure(2), -3);
        // 10 times 2 times 13 by 10, and WEAR 2, and 6 of CHIPS
        x.felt(1, 26 + 2 + 6);
        Check.granted(x, "INCH 1 is harder", x.causes(), 1);
        Check.granted(x, "the INCH is sure", x.sure(2), 1);
        x.felt(1, 26 + 2 + 6);
        Check.granted(x, "the same again", x.causes(), 1);
        x.felt(1, 28);
        Check.granted(x, "both can't be", x.causes(), 0);
        Check.refused(x, "cause of none", x.cause(0, 0), 1);
        Check.refused(x, "sure of none", x.sure(0), 6);
        Check.refused(x, "sure of none, a wrong what", x.sure(3), 1);
        x.forget();
        Check.granted(x, "forgotten", x.causes(), 40);
        // FORCE 20, WEAR 30, CHIPS 13 of which 5 have room
        x.felt(0, 20 + 30 + 16);
        Check.granted(x, "the most WEAR and CHIPS", x.causes(), 4);
        Check.granted(x, "sure of WEAR", x.sure(0), 30);
        Check.granted(x, "sure of CHIPS", x.sure(1), 9);
        Check.granted(x, "the first is none", x.cause(0, 2), -2);
        x.forget();
        // behind draw and sharpening nothing of the beginning is left, but whether INCH 3 is harder is
        x.felt(3, 10);
        Check.granted(x, "drawn and sharpened", x.causes(), 8 * 4);
        x.felt(3, 10);
        x.felt(2, 46);
        Check.granted(x, "all but 2, 1 and 0 are out by it", x.sure(0), 0);
        x.forget();
        x.felt(0, 20);
        x.felt(1, 28);
        // a harder INCH wears more: by 10 times 4 by 10, so it is no INCH ahead of 2
        x.felt(2, 46);
        x.felt(3, 13);
        Check.granted(x, "INCH 3 is harder", x.causes(), 1);
        Check.granted(x, "INCH 3", x.cause(0, 2), 3);
        Check.granted(x, "INCH 3 is sure", x.sure(2), 3);
    }

    /** The FORCE by which it is BROKEN is felt, too; nothing behind it is. */
    private static void breaking() {
        DeepHole x = Check.shop("rod inches 5 wall 999 bush 0;lip 10 oil 50 room 9 bears 23;"
            + "costs inch 5 lip 0 draw 4;way a push 0 hold 0 force 20;from 0 feed 1 way a");
        // 20, 22, 24: broken at INCH 2
        x.felt(2, 24);
        // INCHES 0 and 1 harder break it ahead of that; CHIPS 9 have room
        Check.granted(x, "broken by 24", x.causes(), 6);
        Check.granted(x, "none", x.cause(0, 2), -2);
        Check.granted(x, "INCH 3", x.cause(1, 2), 3);
        Check.granted(x, "INCH 4", x.cause(2, 2), 4);
        Check.granted(x, "with CHIPS", x.cause(3, 1), 9);
        x.felt(3, 26);
        Check.granted(x, "behind the breaking", x.causes(), 0);
        x.forget();
        x.felt(0, 30);
        Check.granted(x, "WEAR 10 breaks it at once", x.causes(), 2 * 5);
        Check.granted(x, "WEAR 10", x.sure(0), 10);
        x.forget();
        x.felt(0, 26);
        Check.granted(x, "INCH 0 breaks it at once", x.causes(), 2);
        Check.granted(x, "INCH 0", x.sure(2), 0);
        Check.granted(x, "two that differ", x.sure(1), -3);
    }

    private static void notReached() {
        DeepHole x = Check.shop("rod inches 5 wall 999 bush 0;lip 10 oil 50 room 9 bears 19;"
            + "costs inch 5 lip 0 draw 4;way a push 0 hold 0 force 20;from 0 feed 1 way a");
        x.felt(1, 22);
        Check.granted(x, "never reached", x.causes(), 0);
        Check.refused(x, "sure", x.sure(1), 6);
    }

    /** A harder INCH leads it out, to the right if none is told: what is behind isn't reached. */
    private static void outStops() {
        DeepHole x = Check.shop("rod inches 3 wall 20 bush 0;lip 99 oil 50 room 99 bears 999;"
            + "costs inch 5 lip 0 draw 4;way a push 50 hold 0 force 1;from 0 feed 1 way a");
        // x is 5, 15, 30; with INCH 0 harder 20 at once
        x.felt(1, 2);
        x.felt(2, 3);
        Check.granted(x, "INCH 0 would be OUT at once, INCH 1 at INCH 1", x.causes(), 4);
        Check.granted(x, "none", x.cause(0, 2), -2);
        Check.granted(x, "INCH 2 gives another FORCE, but by tenths", x.cause(1, 2), 2);
        DeepHole edge = Check.shop("rod inches 3 wall 16 bush 0;lip 99 oil 50 room 99 bears 999;"
            + "costs inch 5 lip 0 draw 4;way a push 50 hold 0 force 1;from 0 feed 1 way a");
        edge.felt(2, 3);
        Check.granted(edge, "no scatter", edge.causes(), 4);
    }
}
