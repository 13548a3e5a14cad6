/** Promises 21 to 28: off, ring, sees, blow, fewest, stroke, heat, about. */
public final class StraightTest {
    private static final String STILL = "rod inches 5 wall 50 bush 9;lip 99 oil 50 room 0 bears 999;"
        + "costs inch 12 lip 0 draw 0;way a push 0 hold 0 force 1;from 0 feed 1 way a;"
        + "seer r sees 1;seer s sees 8;seer t sees 9;seer u sees 99";

    public static void main(String[] args) {
        wrongInputs();
        tooShort();
        offs();
        offFromAway();
        sides();
        seers();
        blows();
        room();
        heat();
        fewest();
        fewestTwo();
        strokes();
        about();
        Check.end("StraightTest");
    }

    private static DeepHole still() {
        DeepHole x = Check.shop(STILL);
        x.drill(5);
        return x;
    }

    private static void wrongInputs() {
        DeepHole x = still();
        Check.refused(x, "off(5)", x.off(5, true), Check.NOWHERE, 1);
        Check.refused(x, "off(-1)", x.off(-1, false), Check.NOWHERE, 1);
        Check.refused(x, "ring(3)", x.ring(3), 1);
        Check.refused(x, "ring(-1)", x.ring(-1), 1);
        Check.refused(x, "sees(4)", x.sees(4), 1);
        Check.refused(x, "sees(-1)", x.sees(-1), 1);
        Check.refused(x, "blow side -1", x.blow(1, -1, 1), 1);
        Check.refused(x, "blow side 4", x.blow(1, 4, 1), 1);
        Check.refused(x, "blow INCH 0", x.blow(0, 0, 0), 1);
        Check.refused(x, "blow INCH 4", x.blow(4, 0, 0), 1);
        Check.refused(x, "blow by 0", x.blow(1, 0, 0), 2);
        Check.refused(x, "blow by 100", x.blow(3, 3, 100), 2);
        Check.refused(x, "fewest by 0", x.fewest(0, 0), 2);
        Check.refused(x, "fewest by 100", x.fewest(100, 0), 2);
        Check.refused(x, "fewest t -1", x.fewest(1, -1), 2);
        Check.refused(x, "fewest t 1000", x.fewest(1, 1000), 2);
        Check.due("nothing moved", x.inch(1, 0), 0);
        Check.due("no BLOWS", x.state(3), 0);
    }

    private static void tooShort() {
        DeepHole x = Check.shop(STILL);
        Check.refused(x, "off of none", x.off(0, true), Check.NOWHERE, 1);
        x.drill(2);
        Check.refused(x, "off(2) of two", x.off(2, true), Check.NOWHERE, 1);
        Check.refused(x, "off(0) of two", x.off(0, true), Check.NOWHERE, 5);
        Check.refused(x, "ring(0)", x.ring(0), 5);
        Check.refused(x, "ring(3)", x.ring(3), 1);
        Check.refused(x, "sees(0)", x.sees(0), 5);
        Check.refused(x, "sees(4)", x.sees(4), 1);
        Check.refused(x, "blow", x.blow(1, 0, 1), 5);
        Check.refused(x, "blow at no INCH", x.blow(9, 0, 0), 5);
        Check.refused(x, "blow from no side", x.blow(9, 4, 0), 1);
        Check.refused(x, "fewest", x.fewest(1, 0), 5);
        Check.refused(x, "fewest of a wrong number", x.fewest(0, 0), 2);
        Check.refused(x, "about", x.about(), 5);
        Check.granted(x, "heat", x.heat(), 0);
        x.drill(1);
        Check.granted(x, "off(0) of three", x.off(0, true), 0);
        Check.granted(x, "blow", x.blow(1, 0, 1), 1);
    }

    private static void offs() {
        DeepHole x = Check.shop(Check.BASE);
        x.drill(4);
        // x 0, 2, 4, 7 by the line 0, 2, 4, 7; y 0, 0, 6, 12 by 0, 4, 8, 12
        int[] offX = {0, 0, 0, 0};
        int[] offY = {0, -4, -2, 0};
        for (int i = 0; i < 4; i++) {
            Check.granted(x, "off x " + i, x.off(i, false), offX[i]);
            Check.granted(x, "off y " + i, x.off(i, true), offY[i]);
        }
        Check.granted(x, "ring(0)", x.ring(0), 1);
        Check.granted(x, "ring(1)", x.ring(1), 4);
        Check.granted(x, "ring(2)", x.ring(2), 3);
        Check.granted(x, "sees(0)", x.sees(0), 1);
        Check.granted(x, "about()", x.about(), 96);
        x.rod(false);
        x.drill(3);
        // y 0, 0, 6 by 0, 3, 6
        Check.granted(x, "off y of three", x.off(1, true), -3);
    }

    /** The first PLACE isn't the middle, and the line goes down: -13 times 1 by 2 is -6. */
    private static void offFromAway() {
        DeepHole x = Check.shop("rod inches 3 wall 99 bush 0;lip 99 oil 50 room 0 bears 999;"
            + "costs inch 5 lip 0 draw 4;way a push 10 hold 0 force 1;way b push 10 hold 100 force 1;"
            + "hard 0 by 9 right;hard 1 by 1 left;hard 2 by 1 left;from 0 feed 1 way a;from 1 feed 9 way a");
        x.drill(3);
        // tilts 10, 0, -10: x 10, 10, 0; the line goes by -5
        Check.due("x", x.inch(2, 0), 0);
        Check.granted(x, "off", x.off(1, false), 5);
        DeepHole y = Check.shop("rod inches 3 wall 99 bush 0;lip 99 oil 50 room 0 bears 999;"
            + "costs inch 5 lip 0 draw 4;way a push 10 hold 0 force 1;"
            + "hard 0 by 2 right;hard 1 by 4 left;hard 2 by 1 left;from 0 feed 1 way a;from 1 feed 2 way a");
        y.drill(3);
        // tilts 3, -3, -6: x 3, 0, -6; half of -9 towards 0 is -4, so the line is at -1
        Check.due("x", y.inch(2, 0), -6);
        Check.granted(y, "off towards 0", y.off(1, false), 1);
    }

    private static void sides() {
        DeepHole x = still();
        Check.granted(x, "a straight ring", x.ring(0), 0);
        Check.granted(x, "a straight ring's size", x.ring(1), 0);
        Check.granted(x, "a straight ring's side", x.ring(2), 0);
        int[] ringSide = {2, 3, 0, 1};
        for (int side = 0; side < 4; side++) {
            x.rod(false);
            x.drill(5);
            x.blow(2, side, 8);
            Check.granted(x, "ring from " + side, x.ring(2), ringSide[side]);
            Check.granted(x, "ring's INCH", x.ring(0), 2);
            Check.granted(x, "ring's size", x.ring(1), 8);
        }
        x.rod(false);
        x.drill(5);
        x.blow(2, 1, 8);
        x.blow(2, 2, 8);
        Check.granted(x, "x counts ahead of y", x.ring(2), 0);
        Check.granted(x, "both together", x.ring(1), 16);
        x.blow(2, 1, 1);
        Check.granted(x, "y is more", x.ring(2), 3);
        x.rod(false);
        x.drill(5);
        x.blow(2, 0, 8);
        x.blow(2, 3, 8);
        Check.granted(x, "x below 0 counts ahead of y", x.ring(2), 2);
        x.rod(false);
        x.drill(5);
        x.blow(1, 0, 9);
        x.blow(3, 0, 9);
        Check.granted(x, "the first of like ones", x.ring(0), 1);
    }

    private static void seers() {
        DeepHole x = still();
        Check.granted(x, "sees(0) nothing", x.sees(0), 0);
        x.blow(2, 0, 8);
        Check.granted(x, "sees(0)", x.sees(0), 1);
        Check.granted(x, "sees(1), as much as told", x.sees(1), 1);
        Check.granted(x, "sees(2)", x.sees(2), 0);
        Check.granted(x, "sees(3)", x.sees(3), 0);
    }

    /** At INCH 1 by 10: 0, 10, 6, 3, 0; at INCH 3 by 10: 0, 3, 6, 10, 0. */
    private static void blows() {
        DeepHole x = still();
        Check.granted(x, "the first", x.blow(1, 0, 10), 1);
        int[] far = {0, 10, 6, 3, 0};
        for (int k = 0; k < 5; k++) {
            Check.due("from the right", x.inch(k, 0), -far[k]);
            Check.due("from the right, y", x.inch(k, 1), 0);
            Check.due("off", x.off(k, false), -far[k]);
        }
        Check.granted(x, "the second", x.blow(3, 3, 10), 2);
        for (int k = 0; k < 5; k++) {
            Check.due("x stays", x.inch(k, 0), -far[k]);
            Check.due("from below", x.inch(k, 1), far[4 - k]);
        }
        Check.granted(x, "the third", x.blow(1, 2, 10), 3);
        Check.granted(x, "the fourth", x.blow(3, 1, 10), 4);
        for (int k = 0; k < 5; k++) {
            Check.due("all back", x.inch(k, 0), 0);
            Check.due("all back, y", x.inch(k, 1), 0);
        }
        Check.due("state(3)", x.state(3), 4);
        Check.due("FORCE stays", x.inch(1, 2), 2);
    }

    private static void room() {
        DeepHole x = still();
        for (int i = 1; i <= 20; i++) {
            Check.granted(x, "blow", x.blow(2, 0, 99), i);
        }
        Check.refused(x, "the 21st", x.blow(2, 0, 99), 3);
        Check.refused(x, "a wrong 21st", x.blow(2, 0, 0), 2);
        Check.due("20 moved it", x.inch(2, 0), -1980);
        Check.granted(x, "less than nothing is left", x.about(), 50 - 1980);
        Check.granted(x, "heat", x.heat(), 20);
        Check.due("heat brings 49 each back", x.inch(2, 0), -1980 + 20 * 49);
        Check.granted(x, "room again", x.blow(2, 0, 99), 1);
    }

    /** Moves of 9, 6 and 3: 4, 3 and 1 go back. */
    private static void heat() {
        DeepHole x = still();
        Check.granted(x, "heat of none", x.heat(), 0);
        x.blow(1, 1, 9);
        x.blow(1, 0, 9);
        x.blow(3, 0, 9);
        Check.granted(x, "heat", x.heat(), 3);
        int[] back = {0, 5, 3, 2, 0};
        for (int k = 0; k < 5; k++) {
            Check.due("y behind heat", x.inch(k, 1), -back[k]);
            Check.due("x behind heat, each BLOW by itself", x.inch(k, 0), -back[k] - back[4 - k]);
        }
        Check.due("BLOWS are forgotten", x.state(3), 0);
        Check.granted(x, "heat again", x.heat(), 0);
        Check.due("and nothing moves", x.inch(1, 1), -5);
    }

    private static void fewest() {
        DeepHole x = still();
        Check.granted(x, "straight", x.fewest(9, 0), 0);
        Check.granted(x, "the most and the most", x.fewest(99, 999), 0);
        Check.granted(x, "the least", x.fewest(1, 0), 0);
        Check.due("stroke of none", x.stroke(0), DeepHole.NONE);
        x.blow(2, 1, 8);
        Check.granted(x, "straight enough", x.fewest(8, 8), 0);
        Check.granted(x, "not straight enough", x.fewest(8, 7), 1);
        Check.granted(x, "from below", x.fewest(8, 0), 1);
        Check.due("stroke", x.stroke(0), 23);
        Check.due("stroke(1)", x.stroke(1), DeepHole.NONE);
        Check.due("nothing moved", x.off(2, true), -8);
        Check.due("no BLOW more", x.state(3), 1);
        // a blow of 4 at INCH 1 from below leaves 0, 0, -6, -3, 0, so 6
        Check.granted(x, "the first INCH that does", x.fewest(4, 6), 1);
        Check.due("the first stroke that does", x.stroke(0), 13);
    }

    private static void fewestTwo() {
        DeepHole x = still();
        x.blow(1, 0, 9);
        x.blow(3, 1, 9);
        Check.granted(x, "two", x.fewest(9, 0), 2);
        Check.due("the first", x.stroke(0), 12);
        Check.due("the second", x.stroke(1), 33);
        Check.due("no third", x.stroke(2), DeepHole.NONE);
        x.rod(false);
        x.drill(5);
        x.blow(3, 0, 9);
        x.blow(1, 2, 9);
        Check.granted(x, "two across", x.fewest(9, 0), 2);
        Check.due("the first across", x.stroke(0), 10);
        Check.due("the second across", x.stroke(1), 32);
        x.rod(false);
        x.drill(5);
        x.blow(2, 3, 9);
        x.blow(2, 3, 9);
        Check.granted(x, "twice the same", x.fewest(9, 0), 2);
        Check.due("the first", x.stroke(0), 21);
        Check.due("the second", x.stroke(1), 21);
        x.blow(2, 3, 9);
        Check.refused(x, "three are too many", x.fewest(9, 0), 6);
        Check.due("the strokes stay", x.stroke(1), 21);
    }

    private static void strokes() {
        DeepHole x = still();
        Check.due("none yet", x.stroke(0), DeepHole.NONE);
        x.blow(2, 1, 8);
        x.fewest(8, 0);
        Check.due("stroke(-1)", x.stroke(-1), DeepHole.NONE);
        x.rod(false);
        Check.due("a stroke stays with a new rod", x.stroke(0), 23);
        x.drill(2);
        x.fewest(8, 0);
        Check.due("a stroke stays behind a refusal", x.stroke(0), 23);
        Check.due("stroke sets no trouble", x.trouble(), 5);
        x.drill(2);
        x.fewest(8, 0);
        Check.due("none are told anew", x.stroke(0), DeepHole.NONE);
    }

    private static void about() {
        DeepHole x = still();
        Check.granted(x, "all of it", x.about(), 50);
        x.blow(2, 1, 8);
        x.blow(2, 0, 11);
        Check.granted(x, "less the greater of x and y", x.about(), 39);
        x.blow(3, 3, 30);
        // y at INCH 3 is -4 and 30
        Check.granted(x, "another INCH", x.about(), 24);
    }
}
