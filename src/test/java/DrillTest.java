/** Promises 6 to 9 and 33: rod, drill, inch, state, led. */
public final class DrillTest {
    public static void main(String[] args) {
        wrongInputs();
        byHand();
        toZero();
        oil();
        broken();
        brokenAtOnce();
        out();
        backward();
        ways();
        hardPlaces();
        longRod();
        Check.end("DrillTest");
    }

    private static void wrongInputs() {
        DeepHole x = Check.shop(Check.BASE);
        Check.refused(x, "drill(0)", x.drill(0), 2);
        Check.refused(x, "drill(31)", x.drill(31), 2);
        Check.refused(x, "drill(-7)", x.drill(-7), 2);
        Check.refused(x, "inch of none", x.inch(0, 0), Check.NOWHERE, 1);
        Check.granted(x, "drill(1)", x.drill(1), 1);
        Check.granted(x, "inch(0, 0)", x.inch(0, 0), 0);
        Check.refused(x, "inch(1, 0)", x.inch(1, 0), Check.NOWHERE, 1);
        Check.refused(x, "inch(-1, 0)", x.inch(-1, 0), Check.NOWHERE, 1);
        Check.refused(x, "inch(0, 7)", x.inch(0, 7), Check.NOWHERE, 1);
        Check.refused(x, "inch(0, -1)", x.inch(0, -1), Check.NOWHERE, 1);
        Check.refused(x, "inch(most)", x.inch(Integer.MAX_VALUE, 0), Check.NOWHERE, 1);
        Check.granted(x, "drill(2)", x.drill(2), 2);
        Check.due("whole", x.state(2), 0);
        Check.granted(x, "drill(30) of one", x.drill(30), 1);
        Check.due("through", x.state(2), 3);
        Check.refused(x, "drill through", x.drill(1), 5);
        Check.refused(x, "drill(0) through", x.drill(0), 2);
        Check.granted(x, "rod", x.rod(false) ? 1 : 0, 1);
        Check.due("a new rod's INCHES", x.state(0), 0);
        Check.due("a new rod's COST", x.state(1), 0);
        Check.due("a new rod is whole", x.state(2), 0);
        Check.granted(x, "drill the new rod", x.drill(3), 3);
        x.blow(1, 0, 4);
        Check.due("state(3)", x.state(3), 1);
        Check.refused(x, "drill with BLOWS", x.drill(1), 5);
        x.rod(false);
        Check.due("a new rod has no BLOWS", x.state(3), 0);
        x.drill(3);
        Check.due("a new rod's PLACES", x.inch(1, 0), 2);
        x.blow(1, 0, 4);
        x.heat();
        Check.granted(x, "drill behind heat", x.drill(1), 1);
        Check.due("it goes on from the last PLACE", x.inch(3, 0), 7);
    }

    /** Every number of every INCH of the plain shop. */
    private static void byHand() {
        DeepHole x = Check.shop(Check.BASE);
        x.drill(4);
        int[][] due = {
            {0, 0, 20, 2, 4, 0, 0}, {2, 0, 28, 4, 8, 2, 0}, {4, 6, 46, 10, 12, 2, 6}, {7, 12, 10, 2, 1, 3, 6}};
        for (int i = 0; i < 4; i++) {
            for (int what = 0; what < 7; what++) {
                Check.granted(x, "inch(" + i + ", " + what + ")", x.inch(i, what), due[i][what]);
            }
        }
        // 7 each for the three INCHES by 2, 13 for that by 1, 5 for the draw, 7 for the lip
        Check.due("COST", x.state(1), 46);
        Check.due("FORCE at which it broke", x.state(10), 0);
        Check.leds(x, 2);
    }

    /** hold takes from both parts, towards 0; left and down go below 0. */
    private static void toZero() {
        DeepHole x = Check.shop("rod inches 5 wall 999 bush 0;lip 99 oil 50 room 99 bears 999;"
            + "costs inch 9 lip 0 draw 0;way a push 10 hold 50 force 1;"
            + "hard 0 by 4 left;hard 1 by 2 down;hard 3 by 9 right;from 0 feed 1 way a");
        x.drill(5);
        // push 5 to the left, half of it: -2; push 3 down: -1, and the x's part is halved: -1;
        // push 1 to the right: 0 and 0; push 10 to the right: 5; push 1: 3
        int[][] due = {{-2, 0, -2, 0}, {-3, -1, -1, -1}, {-3, -1, 0, 0}, {2, -1, 5, 0}, {5, -1, 3, 0}};
        for (int i = 0; i < 5; i++) {
            Check.due("x " + i, x.inch(i, 0), due[i][0]);
            Check.due("y " + i, x.inch(i, 1), due[i][1]);
            Check.due("tilt x " + i, x.inch(i, 5), due[i][2]);
            Check.due("tilt y " + i, x.inch(i, 6), due[i][3]);
            Check.due("no CHIPS " + i, x.inch(i, 4), 0);
        }
        // 10 times 5 by 99, 10 times 3 by 99, 0, 10 times 10 by 99: 0, 0, 0, 1, each and 1
        Check.due("WEAR 1", x.inch(1, 3), 2);
        Check.due("WEAR 3", x.inch(3, 3), 5);
        Check.due("COST", x.state(1), 50);
        Check.leds(x, 0, 1, 3);
        DeepHole held = Check.shop("rod inches 3 wall 10 bush 0;lip 1 oil 0 room 0 bears 999;"
            + "costs inch 0 lip 0 draw 0;way a push 99 hold 100 force 1;from 0 feed 9 way a");
        Check.due("held", held.drill(3), 3);
        Check.due("held x", held.inch(2, 0), 0);
    }

    /** CHIPS never grow by less than 0: only a draw takes them away. */
    private static void oil() {
        DeepHole x = Check.shop("rod inches 5 wall 999 bush 9;lip 10 oil 10 room 3 bears 999;"
            + "costs inch 7 lip 3 draw 2;way a push 0 hold 0 force 2;"
            + "from 0 feed 5 way a;from 1 feed 1 way a;from 2 feed 4 way a;from 4 feed 4 way a draw");
        x.drill(5);
        int[] chips = {5, 5, 7, 9, 2};
        // twice the CHIPS above 3, WEAR grows by 2, 2 times the FEED
        int[] force = {10 + 0 + 4, 2 + 2 + 4, 8 + 4 + 8, 8 + 6 + 12, 8 + 8 + 0};
        for (int i = 0; i < 5; i++) {
            Check.due("CHIPS " + i, x.inch(i, 4), chips[i]);
            Check.due("FORCE " + i, x.inch(i, 2), force[i]);
            Check.due("x in the bush " + i, x.inch(i, 0), 0);
        }
        // 7 by 5, 7, 7 by 4 three times, each and 1, and the draw
        Check.due("COST", x.state(1), 2 + 8 + 2 + 2 + 2 + 2);
    }

    /** FORCES 20 and 22 are borne by 22; 24 is not. */
    private static void broken() {
        DeepHole x = Check.shop("rod inches 9 wall 999 bush 0;lip 10 oil 50 room 0 bears 22;"
            + "costs inch 5 lip 0 draw 4;way a push 0 hold 0 force 20;from 0 feed 1 way a;"
            + "from 2 feed 1 way a draw");
        Check.granted(x, "drill till it breaks", x.drill(9), 2);
        Check.due("FORCE borne", x.inch(1, 2), 22);
        Check.due("BROKEN", x.state(2), 1);
        Check.due("FORCE", x.state(10), 24);
        Check.due("INCHES", x.state(0), 2);
        Check.due("COST of the INCH begun, too", x.state(1), 22);
        Check.refused(x, "drill BROKEN", x.drill(1), 5);
        Check.refused(x, "inch BROKEN", x.inch(2, 2), Check.NOWHERE, 1);
        x.rod(false);
        Check.due("a new drill", x.state(2), 0);
        Check.due("a new drill's FORCE", x.state(10), 0);
    }

    private static void brokenAtOnce() {
        DeepHole x = Check.shop("rod inches 9 wall 999 bush 0;lip 10 oil 50 room 0 bears 44;"
            + "costs inch 5 lip 0 draw 4;way a push 0 hold 0 force 5;hard 0 by 8 up;from 0 feed 5 way a");
        Check.granted(x, "drill", x.drill(1), 0);
        Check.due("BROKEN", x.state(2), 1);
        Check.due("FORCE", x.state(10), 45);
        Check.leds(x);
    }

    /** 3, 6, 10 hairs: out when the wall is reached, not ahead of that. */
    private static void out() {
        String front = "rod inches 3 wall ";
        String back = " bush 0;lip 10 oil 50 room 0 bears 999;costs inch 5 lip 0 draw 4;"
            + "way a push 10 hold 0 force 1;hard 1 by 5 left;from 0 feed 1 way a;from 1 feed 9 way a";
        // tilts 1, then 1 less 14 is -13, then 9 more is -4
        DeepHole x = Check.shop(front + 12 + back);
        Check.granted(x, "drill", x.drill(30), 2);
        Check.due("OUT", x.state(2), 2);
        Check.due("the INCH is done", x.inch(1, 0), -12);
        Check.due("state(0)", x.state(0), 2);
        Check.refused(x, "drill OUT", x.drill(1), 5);
        Check.leds(x, 1);
        DeepHole y = Check.shop(front + 13 + back);
        Check.granted(y, "drill", y.drill(30), 3);
        Check.due("OUT at the last INCH", y.state(2), 2);
        DeepHole z = Check.shop(front + 17 + back);
        z.drill(3);
        Check.due("x", z.inch(2, 0), -16);
        Check.due("not OUT", z.state(2), 3);
        DeepHole up = Check.shop(front + 12 + back.replace("left", "up"));
        Check.due("OUT by y", up.drill(30), 2);
        Check.due("y", up.inch(1, 1), 14);
        Check.due("OUT", up.state(2), 2);
        DeepHole just = Check.shop(front + 14 + back.replace("left", "down"));
        Check.due("OUT by y, as much as the wall", just.drill(30), 2);
        Check.due("y", just.inch(1, 1), -14);
        DeepHole nearly = Check.shop(front + 15 + back.replace("left", "down"));
        Check.due("not OUT by y", nearly.drill(2), 2);
        Check.due("not OUT yet", nearly.state(2), 0);
    }

    /** The hard place at INCH 2 of 4 is at 1 then; plan and sides stay. */
    private static void backward() {
        DeepHole x = Check.shop(Check.BASE);
        Check.granted(x, "rod(true)", x.rod(true) ? 1 : 0, 1);
        x.drill(4);
        Check.leds(x, 1);
        Check.due("y 1", x.inch(1, 1), 6);
        Check.due("x 1", x.inch(1, 0), 0);
        Check.due("FORCE 1", x.inch(1, 2), 28 + 2 + 6);
        Check.due("y 2", x.inch(2, 1), 12);
        Check.due("x 2", x.inch(2, 0), 2);
        Check.due("WEAR 3 is sharpened", x.inch(3, 3), 2);
        x.rod(false);
        x.drill(4);
        Check.leds(x, 2);
    }

    private static void ways() {
        DeepHole x = Check.shop("rod inches 4 wall 999 bush 0;lip 10 oil 50 room 0 bears 999;"
            + "costs inch 0 lip 9 draw 0;way a push 0 hold 0 force 1;way b push 30 hold 0 force 7;"
            + "from 0 feed 3 way b;from 2 feed 2 way a sharpen");
        x.drill(4);
        Check.due("FORCE by b", x.inch(0, 2), 21);
        Check.due("FORCE by b worn", x.inch(1, 2), 23);
        Check.due("FORCE by a sharpened", x.inch(2, 2), 2);
        Check.due("sharpen at its own INCH alone", x.inch(3, 2), 4);
        Check.due("tilt by b", x.inch(1, 5), 18);
        Check.due("tilt by a", x.inch(3, 5), 18);
        Check.due("COST", x.state(1), 13);
        // WEAR by 10 pushes, too: lip 1, hard 0: 11 an INCH
        DeepHole worn = Check.shop("rod inches 3 wall 999 bush 0;lip 1 oil 50 room 0 bears 999;"
            + "costs inch 0 lip 9 draw 0;way a push 20 hold 0 force 1;from 0 feed 1 way a");
        worn.drill(3);
        Check.due("worn 0", worn.inch(0, 5), 2);
        Check.due("worn 1", worn.inch(1, 5), 6);
        Check.due("worn 2", worn.inch(2, 5), 12);
        // lip 9: 10 times 9 by 9, and 1: 11; WEAR by 10 is whole: 99 times (9 and 1 and 1) by 10
        DeepHole wear = Check.shop("rod inches 3 wall 999 bush 0;lip 9 oil 50 room 0 bears 999;"
            + "costs inch 0 lip 9 draw 7;way a push 99 hold 0 force 1;hard 0 by 8 up;hard 1 by 9 down;"
            + "hard 2 by 9 left;from 0 feed 1 way a draw sharpen");
        wear.drill(3);
        Check.due("WEAR 0", wear.inch(0, 3), 11);
        Check.due("tilt 0", wear.inch(0, 6), 89);
        Check.due("tilt 1", wear.inch(1, 6), 89 - 108);
        Check.due("WEAR 1", wear.inch(1, 3), 11 + 12);
        Check.due("tilt 2", wear.inch(2, 5), -118);
        Check.due("draw and sharpen at INCH 0", wear.state(1), 3 + 9 + 7);
    }

    private static void hardPlaces() {
        DeepHole x = Check.shop(Check.BASE + ";hard 2 by 1 left;hard 20 by 9 up");
        x.drill(4);
        Check.due("the latest hard counts, its FORCE", x.inch(2, 2), 22 + 4 + 14);
        Check.due("the latest hard counts, its side", x.inch(2, 0), 2 + 2 - 3);
        Check.due("the latest hard counts, y", x.inch(2, 1), 0);
        Check.leds(x, 2);
    }

    private static void longRod() {
        DeepHole x = Check.shop("rod inches 30 wall 999 bush 9;lip 99 oil 50 room 0 bears 999;"
            + "costs inch 99 lip 0 draw 0;way a push 1 hold 0 force 1;hard 29 by 9 down;from 0 feed 9 way a");
        Check.granted(x, "drill(30)", x.drill(30), 30);
        Check.due("through", x.state(2), 3);
        Check.due("COST", x.state(1), 30 * 12);
        Check.leds(x, 29);
        x.rod(true);
        x.drill(1);
        Check.leds(x, 0);
    }
}
