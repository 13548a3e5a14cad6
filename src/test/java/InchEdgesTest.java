/** Terms II and promises 6 to 9 and 33, edge by edge. */
public final class InchEdgesTest {
    private static final int LEAST = Integer.MIN_VALUE;
    private static final int MOST = Integer.MAX_VALUE;
    private static final String[] SIDES = {"right", "up", "left", "down"};
    private static final int[] SIDE_X = {1, 0, -1, 0};
    private static final int[] SIDE_Y = {0, 1, 0, -1};

    public static void main(String[] args) {
        allZeroAtFirst();
        latestFrom();
        ownInchAlone();
        costs();
        chips();
        force();
        room();
        borne();
        brokenByChips();
        brokenStops();
        bush();
        push();
        wearPushes();
        sides();
        hold();
        wear();
        out();
        outStops();
        backward();
        latestHard();
        drills();
        newRods();
        states();
        leds();
        Check.end("InchEdgesTest");
    }

    private static void row(DeepHole x, String what, int number, int... due) {
        for (int i = 0; i < due.length; i++) {
            Check.granted(x, what + " of INCH " + i, x.inch(i, number), due[i]);
        }
    }

    /** "PLACE .., TILT .., WEAR, CHIPS, COST: all 0 at first". */
    private static void allZeroAtFirst() {
        DeepHole x = new Workshop().rod(2, 999, 1).lip(99, 0, 0, 999).way("a", 99, 0, 7).shop();
        for (int rod = 0; rod < 3; rod++) {
            Check.due("COST", x.state(1), 0);
            x.drill(1);
            row(x, "x", 0, 0);
            row(x, "y", 1, 0);
            // of the CHIPS 3 come with this INCH, and none was there; WEAR comes behind it
            row(x, "FORCE", 2, 7 + 6);
            row(x, "WEAR", 3, 1);
            row(x, "CHIPS", 4, 3);
            row(x, "tilt x", 5, 0);
            row(x, "tilt y", 6, 0);
            Check.due("COST", x.state(1), 1);
            x.rod(rod == 0);
        }
    }

    /** "by FEED, WAY of the latest from not behind it". */
    private static void latestFrom() {
        DeepHole x = new Workshop().lip(99, 50, 99, 999).way("a", 0, 0, 1).way("b", 0, 0, 30)
            .from(0, 2, "b").from(1, 1, "a").from(4, 3, "b").drilled(5);
        // WEAR grows by 1 an INCH
        row(x, "FORCE", 2, 60, 1 + 1, 1 + 2, 1 + 3, 90 + 4);
        DeepHole last = new Workshop().rod(30, 999, 0).from(0, 1, "a").from(28, 5, "a").from(29, 9, "a").drilled(30);
        Check.due("INCH 27", last.inch(27, 2), 1 + 27);
        Check.due("INCH 28", last.inch(28, 2), 5 + 28);
        Check.due("INCH 29", last.inch(29, 2), 9 + 29);
        DeepHole behind = new Workshop().rod(4, 999, 0).from(0, 1, "a").from(4, 9, "a draw sharpen").drilled(30);
        row(behind, "FORCE", 2, 1, 2, 3, 4);
        Check.due("a from behind the rod costs nothing", behind.state(1), 4);
    }

    /** "(draw and sharpen at its own INCH alone)"; sharpen: WEAR is 0, lip's cost; draw: CHIPS are 0, draw's cost. */
    private static void ownInchAlone() {
        DeepHole both = new Workshop().lip(10, 0, 99, 999).costs(10, 20, 40)
            .from(0, 1, "a").from(2, 1, "a draw sharpen").drilled(5);
        row(both, "WEAR", 3, 2, 4, 2, 4, 6);
        row(both, "CHIPS", 4, 3, 6, 3, 6, 9);
        row(both, "FORCE", 2, 1, 3, 1, 3, 5);
        Check.due("COST of both", both.state(1), 5 * 11 + 20 + 40);
        DeepHole draw = new Workshop().lip(10, 0, 99, 999).costs(10, 20, 40)
            .from(0, 1, "a").from(2, 1, "a draw").drilled(5);
        row(draw, "WEAR", 3, 2, 4, 6, 8, 10);
        row(draw, "CHIPS", 4, 3, 6, 3, 6, 9);
        Check.due("COST of a draw", draw.state(1), 5 * 11 + 40);
        DeepHole sharpen = new Workshop().lip(10, 0, 99, 999).costs(10, 20, 40)
            .from(0, 1, "a").from(2, 1, "a sharpen").drilled(5);
        row(sharpen, "WEAR", 3, 2, 4, 2, 4, 6);
        row(sharpen, "CHIPS", 4, 3, 6, 9, 12, 15);
        Check.due("COST of a sharpening", sharpen.state(1), 5 * 11 + 20);
        DeepHole first = new Workshop().lip(10, 0, 99, 999).costs(10, 20, 40).from(0, 1, "a draw sharpen").shop();
        first.drill(1);
        Check.due("COST of both at INCH 0", first.state(1), 11 + 60);
        first.drill(4);
        Check.due("COST behind INCH 0", first.state(1), 5 * 11 + 60);
        row(first, "WEAR", 3, 2, 4, 6, 8, 10);
        row(first, "CHIPS", 4, 3, 6, 9, 12, 15);
    }

    /** "inch's cost by FEED, downwards, and 1". */
    private static void costs() {
        int[][] due = {{0, 1, 1}, {0, 9, 1}, {1, 1, 2}, {1, 2, 1}, {8, 9, 1}, {9, 9, 2}, {10, 9, 2}, {17, 9, 2},
            {18, 9, 3}, {98, 1, 99}, {99, 1, 100}, {99, 2, 50}, {99, 9, 12}};
        for (int[] d : due) {
            DeepHole x = new Workshop().costs(d[0], 99, 99).from(0, d[1], "a").drilled(1);
            Check.due("COST of " + d[0] + " by " + d[1], x.state(1), d[2]);
        }
    }

    /** "CHIPS grow by FEED times 3, less oil, 0 at least". */
    private static void chips() {
        int[] oil = {0, 8, 9, 10, 50};
        int[] due = {9, 1, 0, 0, 0};
        for (int i = 0; i < oil.length; i++) {
            DeepHole x = new Workshop().lip(99, oil[i], 99, 999).from(0, 3, "a").drilled(3);
            row(x, "CHIPS with oil " + oil[i], 4, due[i], 2 * due[i], 3 * due[i]);
        }
        // oil that is more than enough takes none of those away that stay
        DeepHole x = new Workshop().lip(99, 10, 99, 999).from(0, 9, "a").from(1, 3, "a").from(3, 4, "a").drilled(4);
        row(x, "CHIPS that stay", 4, 17, 17, 17, 19);
    }

    /** "the WAY's force times FEED times (10 and hard of the INCH, 0 if none is told) by 10 (downwards), and WEAR". */
    private static void force() {
        int[][] due = {{1, 1, 9, 1}, {5, 1, 1, 5}, {5, 1, 2, 6}, {5, 1, 3, 6}, {1, 9, 1, 9}, {1, 9, 2, 10},
            {50, 9, 9, 855}, {1, 1, 1, 1}, {11, 1, 9, 20}};
        for (int[] d : due) {
            DeepHole x = new Workshop().way("a", 0, 0, d[0]).hard(0, d[2], "up").from(0, d[1], "a").drilled(1);
            row(x, "FORCE of " + d[0] + " times " + d[1] + " in " + d[2], 2, d[3]);
        }
        DeepHole none = new Workshop().way("a", 0, 0, 50).hard(1, 9, "up").from(0, 9, "a").drilled(1);
        row(none, "FORCE with none told", 2, 450);
        // WEAR ahead of the INCH counts, that which comes by it doesn't
        DeepHole worn = new Workshop().lip(1, 50, 99, 999).way("a", 0, 0, 3).drilled(3);
        row(worn, "FORCE and WEAR", 2, 3, 3 + 11, 3 + 22);
    }

    /** "twice what CHIPS are above room". */
    private static void room() {
        int[] room = {0, 5, 6, 7, 99};
        int[] due = {12, 2, 0, 0, 0};
        for (int i = 0; i < room.length; i++) {
            DeepHole x = new Workshop().lip(99, 0, room[i], 999).way("a", 0, 0, 10).from(0, 2, "a").drilled(1);
            row(x, "FORCE with room " + room[i], 2, 20 + due[i]);
        }
    }

    /** "If it is above bears, the drill is BROKEN there". */
    private static void borne() {
        for (int bears = 19; bears <= 21; bears++) {
            DeepHole x = new Workshop().lip(99, 50, 99, bears).way("a", 0, 0, 10).from(0, 2, "a").shop();
            Check.granted(x, "FORCE 20, bears " + bears, x.drill(1), bears < 20 ? 0 : 1);
            Check.due("BROKEN by 20, bears " + bears, x.state(2), bears < 20 ? 1 : 0);
            Check.due("its FORCE, bears " + bears, x.state(10), bears < 20 ? 20 : 0);
        }
        for (int bears = 11; bears <= 13; bears++) {
            DeepHole x = new Workshop().lip(10, 50, 99, bears).way("a", 0, 0, 10).drilled(2);
            // FORCE 10, and with WEAR 12
            Check.due("INCHES, bears " + bears, x.state(0), bears < 12 ? 1 : 2);
            Check.due("FORCE by WEAR, bears " + bears, x.state(10), bears < 12 ? 12 : 0);
        }
        DeepHole strong = new Workshop().lip(99, 50, 99, 999).way("a", 0, 0, 50).hard(0, 9, "up").from(0, 9, "a").drilled(1);
        Check.due("the most of a WAY is borne by the most", strong.state(0), 1);
    }

    private static void brokenByChips() {
        // FORCE 10 and WEAR 0, 1; CHIPS 3, 6
        for (int room = 4; room <= 6; room++) {
            DeepHole x = new Workshop().lip(99, 0, room, 12).way("a", 0, 0, 10).drilled(2);
            Check.due("INCHES with room " + room, x.state(0), room < 6 ? 1 : 2);
            Check.due("FORCE with room " + room, x.state(10), room < 6 ? 11 + 2 * (6 - room) : 0);
        }
    }

    /** "nothing more of the INCH": no PLACE, no WEAR behind it; its step 1 was done. */
    private static void brokenStops() {
        DeepHole x = new Workshop().lip(10, 0, 99, 15).costs(10, 20, 40).way("a", 10, 0, 5).hard(2, 9, "up")
            .from(0, 1, "a").from(2, 2, "a draw sharpen").shop();
        Check.granted(x, "drill", x.drill(5), 2);
        Check.due("INCHES", x.state(0), 2);
        Check.due("BROKEN", x.state(2), 1);
        Check.due("FORCE", x.state(10), 19);
        Check.due("COST", x.state(1), 11 + 11 + 20 + 40 + 6);
        Check.refused(x, "inch(2, 2)", x.inch(2, 2), Check.NOWHERE, 1);
        Check.leds(x);
        row(x, "x", 0, 1, 3);
        // at once
        DeepHole none = new Workshop().lip(10, 0, 99, 15).costs(10, 20, 40).from(0, 9, "a").way("a", 0, 0, 2).shop();
        Check.granted(none, "drill", none.drill(30), 0);
        Check.due("BROKEN at once", none.state(2), 1);
        Check.due("COST of it", none.state(1), 2);
        Check.refused(none, "no INCH", none.inch(0, 2), Check.NOWHERE, 1);
        // at the last INCH: BROKEN, not through
        DeepHole last = new Workshop().rod(3, 999, 0).lip(99, 50, 99, 11).way("a", 0, 0, 10).drilled(30);
        Check.due("two INCHES", last.state(0), 2);
        Check.due("BROKEN at the last", last.state(2), 1);
    }

    /** "Behind the bush (i is no less than it)"; "Within the bush the TILT is 0". */
    private static void bush() {
        for (int bush = 0; bush <= 9; bush++) {
            // WEAR stays below 10, so each INCH behind the bush pushes by 1
            DeepHole x = new Workshop().rod(10, 999, bush).way("a", 10, 0, 1).drilled(10);
            int at = 0;
            for (int i = 0; i < 10; i++) {
                int tilt = i < bush ? 0 : i - bush + 1;
                at += tilt;
                Check.due("tilt at " + i + ", bush " + bush, x.inch(i, 5), tilt);
                Check.due("x at " + i + ", bush " + bush, x.inch(i, 0), at);
                Check.due("WEAR at " + i + ", bush " + bush, x.inch(i, 3), i + 1);
            }
        }
        DeepHole within = new Workshop().rod(2, 10, 9).way("a", 99, 0, 1).hard(0, 9, "up").drilled(2);
        row(within, "x of a rod shorter than the bush", 0, 0, 0);
        row(within, "y of a rod shorter than the bush", 1, 0, 0);
        Check.due("through", within.state(2), 3);
    }

    /** "the WAY's push times (hard, WEAR by 10 and FEED together) by 10, downwards". */
    private static void push() {
        int[][] due = {{0, 9, 9, 0}, {1, 0, 9, 0}, {1, 1, 9, 1}, {9, 0, 1, 0}, {10, 0, 1, 1}, {11, 0, 1, 1}, {19, 0, 1, 1},
            {20, 0, 1, 2}, {99, 9, 9, 178}, {99, 0, 1, 9}, {7, 3, 2, 3}};
        for (int[] d : due) {
            Workshop w = new Workshop().way("a", d[0], 0, 1).from(0, d[2], "a");
            DeepHole x = (d[1] == 0 ? w : w.hard(0, d[1], "right")).drilled(1);
            row(x, "tilt by " + d[0] + " in " + d[1] + " with FEED " + d[2], 5, d[3]);
        }
    }

    /** WEAR by 10 is whole: 9 is 0, 10 and 19 are 1, 20 is 2; what the sharpening takes doesn't push. */
    private static void wearPushes() {
        DeepHole two = new Workshop().rod(12, 999, 0).lip(10, 50, 99, 999).way("a", 10, 0, 1).drilled(12);
        // WEAR 0, 2 .. 8, 10 .. 18, 20, 22
        row(two, "tilt", 5, 1, 2, 3, 4, 5, 7, 9, 11, 13, 15, 18, 21);
        DeepHole three = new Workshop().rod(8, 999, 0).lip(5, 50, 99, 999).way("a", 10, 0, 1).drilled(8);
        // WEAR 0, 3, 6, 9, 12, 15, 18, 21
        row(three, "tilt", 5, 1, 2, 3, 4, 6, 8, 10, 13);
        DeepHole nineteen = new Workshop().rod(3, 999, 0).lip(1, 50, 99, 999).way("a", 10, 0, 1)
            .from(0, 1, "a").from(2, 1, "a sharpen").drilled(3);
        // WEAR 0, 11, and 0 again
        row(nineteen, "tilt", 5, 1, 3, 4);
        // hard, WEAR by 10 and FEED come together ahead of the push: 9 times (1, 1 and 1)
        DeepHole together = new Workshop().rod(2, 999, 0).lip(1, 50, 99, 999).way("a", 9, 0, 1).hard(1, 1, "right").drilled(2);
        row(together, "tilt", 5, 0, 2);
    }

    /** "towards the hard place's side (right, if none is told)". */
    private static void sides() {
        for (int side = 0; side < 4; side++) {
            DeepHole x = new Workshop().way("a", 10, 0, 1).hard(0, 4, SIDES[side]).drilled(1);
            row(x, "x to the " + SIDES[side], 0, 5 * SIDE_X[side]);
            row(x, "y to the " + SIDES[side], 1, 5 * SIDE_Y[side]);
            row(x, "tilt x to the " + SIDES[side], 5, 5 * SIDE_X[side]);
            row(x, "tilt y to the " + SIDES[side], 6, 5 * SIDE_Y[side]);
        }
        DeepHole none = new Workshop().way("a", 10, 0, 1).drilled(1);
        row(none, "x with none told", 0, 1);
        row(none, "y with none told", 1, 0);
    }

    /** "each part of the TILT is that times (100 less hold) by 100, towards 0". */
    private static void hold() {
        int[][] due = {{50, 0, 50}, {50, 1, 49}, {50, 50, 25}, {49, 98, 0}, {50, 98, 1}, {99, 98, 1}, {50, 99, 0},
            {99, 99, 0}, {99, 100, 0}, {1, 1, 0}, {1, 0, 1}};
        for (int[] d : due) {
            for (int side = 0; side < 4; side++) {
                // hard 9 and FEED 1: the push times 10 by 10
                DeepHole x = new Workshop().way("a", d[0], d[1], 1).hard(0, 9, SIDES[side]).drilled(1);
                String what = "tilt of " + d[0] + " held by " + d[1] + " to the " + SIDES[side];
                row(x, what + ", x", 5, d[2] * SIDE_X[side]);
                row(x, what + ", y", 6, d[2] * SIDE_Y[side]);
            }
        }
        // what is held goes on being held, both parts
        DeepHole both = new Workshop().way("a", 50, 50, 1).hard(0, 9, "left").hard(1, 9, "down").hard(2, 9, "up").drilled(3);
        row(both, "tilt x held on", 5, -25, -12, -6);
        row(both, "tilt y held on", 6, 0, -25, 12);
        DeepHole held = new Workshop().rod(3, 10, 0).way("a", 99, 100, 1).hard(0, 9, "up").hard(1, 9, "left").drilled(3);
        row(held, "x held whole", 0, 0, 0, 0);
        row(held, "y held whole", 1, 0, 0, 0);
    }

    /** "WEAR grows by 10 times (hard and 1) by lip, downwards, and 1". */
    private static void wear() {
        int[][] due = {{1, 0, 11}, {1, 9, 101}, {99, 0, 1}, {99, 8, 1}, {99, 9, 2}, {90, 8, 2}, {91, 8, 1}, {9, 0, 2},
            {10, 0, 2}, {11, 0, 1}, {5, 0, 3}, {6, 0, 2}};
        for (int[] d : due) {
            Workshop w = new Workshop().lip(d[0], 50, 99, 999);
            DeepHole x = (d[1] == 0 ? w : w.hard(0, d[1], "up").hard(1, d[1], "up")).drilled(2);
            row(x, "WEAR by lip " + d[0] + " in " + d[1], 3, d[2], 2 * d[2]);
        }
    }

    /** "If x or y, without sign, is then wall or more, the drill is OUT". */
    private static void out() {
        for (int side = 0; side < 4; side++) {
            for (int wall = 49; wall <= 51; wall++) {
                DeepHole x = new Workshop().rod(5, wall, 0).way("a", 50, 0, 1).hard(0, 9, SIDES[side]).shop();
                Check.granted(x, "drill(1)", x.drill(1), 1);
                boolean isOut = wall <= 50;
                Check.due("50 to the " + SIDES[side] + ", wall " + wall, x.state(2), isOut ? 2 : 0);
                row(x, "x of the INCH done", 0, 50 * SIDE_X[side]);
                row(x, "y of the INCH done", 1, 50 * SIDE_Y[side]);
                Check.refused(x, "further", x.drill(1), isOut ? DeepHole.NONE : 1, isOut ? 5 : 0);
            }
        }
        // x and y together are more than the wall, but neither is
        DeepHole both = new Workshop().rod(3, 20, 0).way("a", 15, 0, 1).hard(0, 9, "right").hard(1, 9, "left")
            .hard(2, 9, "up").drilled(3);
        row(both, "x", 0, 15, 15, 15);
        row(both, "y", 1, 0, 0, 15);
        Check.due("not OUT by both together", both.state(2), 3);
    }

    /** "the INCH is done, none further"; OUT at the last INCH is OUT, not through. */
    private static void outStops() {
        DeepHole x = new Workshop().rod(5, 50, 0).costs(10, 0, 0).way("a", 50, 0, 1).hard(2, 9, "up").drilled(30);
        // x 5, 15, 25 with WEAR below 10; y 50 at INCH 2
        Check.due("INCHES", x.state(0), 3);
        Check.due("OUT", x.state(2), 2);
        Check.due("COST", x.state(1), 33);
        Check.due("no FORCE broke it", x.state(10), 0);
        Check.leds(x, 2);
        DeepHole last = new Workshop().rod(3, 50, 0).way("a", 50, 0, 1).hard(2, 9, "up").drilled(30);
        Check.due("all INCHES", last.state(0), 3);
        Check.due("OUT at the last", last.state(2), 2);
        DeepHole just = new Workshop().rod(3, 51, 0).way("a", 50, 0, 1).hard(2, 9, "up").drilled(30);
        Check.due("through", just.state(2), 3);
    }

    /** "INCH i is INCH (inches less 1 less i) then, sides as they are (the plan as told)". */
    private static void backward() {
        DeepHole x = new Workshop().rod(5, 999, 0).way("a", 10, 0, 1).hard(0, 9, "left").hard(4, 4, "up").hard(3, 1, "down")
            .hard(5, 9, "up").hard(29, 9, "up").from(0, 1, "a").from(1, 2, "a sharpen").shop();
        Check.granted(x, "rod(true)", x.rod(true) ? 1 : 0, 1);
        Check.granted(x, "drill", x.drill(30), 5);
        Check.leds(x, 0, 1, 4);
        // up by 4 and 1, down by 1 and 2, right by 2, by 2, left by 9 and 2
        row(x, "tilt x", 5, 0, 0, 2, 4, -7);
        row(x, "tilt y", 6, 5, 2, 2, 2, 2);
        // sharpened at INCH 1 as told
        row(x, "WEAR", 3, 1, 1, 2, 3, 5);
        Check.granted(x, "rod(false)", x.rod(false) ? 1 : 0, 1);
        x.drill(30);
        Check.leds(x, 0, 3, 4);
        row(x, "tilt x", 5, -10, -8, -6, -6, -6);
        row(x, "tilt y", 6, 0, 0, 0, -3, 3);
        DeepHole two = new Workshop().rod(2, 999, 0).hard(1, 1, "up").hard(2, 1, "up").shop();
        two.rod(true);
        two.drill(2);
        Check.leds(two, 0);
        DeepHole thirty = new Workshop().rod(30, 999, 0).hard(0, 1, "up").hard(28, 1, "up").shop();
        thirty.rod(true);
        thirty.drill(30);
        Check.leds(thirty, 1, 29);
    }

    /** "of like INCHES the latest counts". */
    private static void latestHard() {
        DeepHole x = new Workshop().way("a", 10, 0, 10).hard(0, 9, "up").hard(1, 3, "up").hard(0, 1, "left").drilled(2);
        row(x, "FORCE", 2, 11, 13 + 1);
        row(x, "x", 0, -2, -4);
        row(x, "y", 1, 0, 4);
        Check.leds(x, 0, 1);
    }

    /** "n INCHES (1 .. 30), as far as it goes: how many are done by it". */
    private static void drills() {
        DeepHole x = new Workshop().rod(30, 999, 0).shop();
        Check.refused(x, "drill(0)", x.drill(0), 2);
        Check.granted(x, "drill(1)", x.drill(1), 1);
        Check.granted(x, "drill(28)", x.drill(28), 28);
        Check.due("whole", x.state(2), 0);
        Check.granted(x, "drill(2) of one", x.drill(2), 1);
        Check.due("through", x.state(2), 3);
        Check.refused(x, "drill(1) through", x.drill(1), 5);
        x.rod(false);
        Check.refused(x, "drill(31)", x.drill(31), 2);
        Check.due("nothing was done", x.state(0), 0);
        Check.granted(x, "drill(30)", x.drill(30), 30);
        x.rod(false);
        Check.granted(x, "drill(29)", x.drill(29), 29);
        Check.due("whole, one is left", x.state(2), 0);
        DeepHole two = new Workshop().rod(2, 999, 0).shop();
        Check.granted(two, "drill(1)", two.drill(1), 1);
        Check.due("whole", two.state(2), 0);
        Check.granted(two, "drill(1)", two.drill(1), 1);
        Check.due("through", two.state(2), 3);
    }

    /** "no INCH is done, no BLOWS"; what is FELT, the WALLS, feeds and strokes found stay. */
    private static void newRods() {
        DeepHole x = new Workshop().hard(1, 9, "up").shop();
        x.drill(5);
        x.blow(1, 0, 8);
        x.fewest(8, 0);
        x.cheapest(2, 9);
        x.felt(0, 1);
        x.wall(0, 3, 4);
        for (int i = 0; i < 2; i++) {
            Check.granted(x, "rod", x.rod(i == 0) ? 1 : 0, 1);
            Check.due("INCHES", x.state(0), 0);
            Check.due("COST", x.state(1), 0);
            Check.due("whole", x.state(2), 0);
            Check.due("BLOWS", x.state(3), 0);
            Check.due("FELT", x.state(4), 1);
            Check.due("stroke", x.stroke(0), 12);
            Check.due("feedAt", x.feedAt(1), 1);
            Check.due("lies", x.lies(0, 9, true), 4);
            Check.leds(x);
            Check.granted(x, "heat of no BLOWS", x.heat(), 0);
            x.drill(5);
            row(x, "x isn't struck", 0, 0, 0, 0, 0, 0);
        }
    }

    /** "NONE for others; 0 for what there isn't." */
    private static void states() {
        DeepHole none = new DeepHole();
        DeepHole x = new Workshop().rod(3, 10, 0).seer("s", 1).seer("t", 1).shop();
        for (int what : new int[] {LEAST, -2, -1, 11, 12, MOST}) {
            Check.due("state(" + what + ") without a SHOP", none.state(what), DeepHole.NONE);
            Check.due("state(" + what + ")", x.state(what), DeepHole.NONE);
        }
        int[] due = {0, 0, 0, 0, 0, 0, 3, 10, 1, 2, 0};
        for (int what = 0; what <= 10; what++) {
            Check.due("state(" + what + ") without a SHOP", none.state(what), 0);
            Check.due("state(" + what + ")", x.state(what), due[what]);
        }
        none.feed(0, 0, 0, 0, 0);
        Check.due("bytes without a SHOP", none.state(5), 20);
        x.drill(3);
        x.blow(1, 0, 1);
        x.felt(0, 5);
        x.feed(0, 0, 0, 0, 0);
        int[] later = {3, 3, 3, 1, 1, 20, 3, 10, 1, 2, 0};
        for (int what = 0; what <= 10; what++) {
            Check.due("state(" + what + ") later", x.state(what), later[what]);
        }
        Check.due("state is never refused", x.trouble(), 0);
    }

    /** "The i-th INCH done with a hard place. NoSuchElementException if there is none such." */
    private static void leds() {
        Check.leds(new DeepHole());
        DeepHole x = new Workshop().rod(5, 999, 0).hard(4, 1, "up").hard(0, 9, "down").hard(2, 5, "left").shop();
        Check.leds(x);
        x.drill(1);
        Check.leds(x, 0);
        x.drill(1);
        Check.leds(x, 0);
        x.drill(1);
        Check.leds(x, 0, 2);
        x.drill(2);
        Check.leds(x, 0, 2, 4);
        for (int i : new int[] {LEAST, -1, 3, 4, 30, MOST}) {
            Check.due("led(" + i + ") throws", Check.ledOf(x, i), -5);
        }
        x.rod(false);
        Check.leds(x);
        DeepHole none = new Workshop().hard(5, 9, "up").drilled(5);
        Check.leds(none);
        Workshop many = new Workshop().rod(30, 999, 0);
        for (int i = 20; i < 30; i++) {
            many.hard(i, 1, "up");
        }
        Check.leds(many.drilled(30), 20, 21, 22, 23, 24, 25, 26, 27, 28, 29);
    }
}
