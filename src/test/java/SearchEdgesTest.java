/** SCATTER, ODDS, CHEAPEST and MET of Terms III and promises 10 to 15, edge by edge. */
public final class SearchEdgesTest {
    private static final int LEAST = Integer.MIN_VALUE;
    private static final int MOST = Integer.MAX_VALUE;
    private static final String[] SIDES = {"right", "up", "left", "down"};

    public static void main(String[] args) {
        oddsBounds();
        rowsByBush();
        scatterWeights();
        nearOnEachSide();
        scatterAheadOfHold();
        oddsNotBroken();
        oddsNotOut();
        behindTheLastAlone();
        cheapestBounds();
        cheapestFeeds();
        cheapestNear();
        cheapestBorne();
        cheapestNotOut();
        likeCosts();
        byThePlan();
        feedsKept();
        metBounds();
        metDone();
        metOut();
        meets();
        Check.end("SearchEdgesTest");
    }

    private static int power(int n) {
        return 1 << 2 * n;
    }

    /** "the first n INCHES (1 .. 9, no more than the rod's) to lie so near (0 .. 999)". */
    private static void oddsBounds() {
        for (int inches : new int[] {2, 3, 8, 9, 10, 30}) {
            DeepHole x = new Workshop().rod(inches, 999, 0).shop();
            for (int n = 0; n <= 11; n++) {
                boolean fits = n >= 1 && n <= 9 && n <= inches;
                Check.refused(x, "rows(" + n + ") of " + inches, x.rows(n), fits ? power(n) : DeepHole.NONE, fits ? 0 : 2);
                Check.refused(x, "odds(" + n + ") of " + inches, x.odds(n, 999), fits ? power(n) : DeepHole.NONE,
                    fits ? 0 : 2);
            }
        }
        DeepHole x = new Workshop().shop();
        Check.refused(x, "near -1", x.odds(1, -1), 2);
        Check.granted(x, "near 0", x.odds(1, 0), 2);
        Check.granted(x, "near 999", x.odds(1, 999), 4);
        Check.refused(x, "near 1000", x.odds(1, 1000), 2);
        Check.refused(x, "the least n", x.odds(LEAST, 0), 2);
        Check.refused(x, "the most n", x.odds(MOST, 0), 2);
        Check.refused(x, "the least near", x.odds(1, LEAST), 2);
        Check.refused(x, "the most near", x.odds(1, MOST), 2);
    }

    /** "at each INCH behind the bush": none within it, which counts once. */
    private static void rowsByBush() {
        for (int bush = 0; bush <= 9; bush++) {
            DeepHole x = new Workshop().rod(10, 999, bush).shop();
            for (int n = 1; n <= 9; n++) {
                int due = power(Math.max(0, n - bush));
                Check.granted(x, "rows(" + n + ") behind " + bush, x.rows(n), due);
                Check.granted(x, "odds(" + n + ") behind " + bush, x.odds(n, 999), due);
            }
            int still = power(0) << Math.max(0, Math.min(9 - bush, 1));
            Check.granted(x, "odds in the bush and one behind it", x.odds(Math.min(9, bush + 1), 0), still);
        }
    }

    /** "a row of these counts twice for each 0 in it": x is 3, 2 and 1 times the three of a row. */
    private static void scatterWeights() {
        DeepHole x = new Workshop().shop();
        // 6 and -6 by one row each, 5 by (1, 1, 0): 2, 4 by (1, 0, 1) and (1, 1, -1): 3
        Check.granted(x, "odds(3, 6)", x.odds(3, 6), 64);
        Check.granted(x, "odds(3, 5)", x.odds(3, 5), 62);
        Check.granted(x, "odds(3, 4)", x.odds(3, 4), 58);
        Check.granted(x, "odds(3, 3)", x.odds(3, 3), 52);
        // 0 by (0, 0, 0): 8, by (1, -1, -1) and (-1, 1, 1)
        Check.granted(x, "odds(3, 0)", x.odds(3, 0), 10);
    }

    /** "x and y, without sign, are a told number at most". */
    private static void nearOnEachSide() {
        for (int side = 0; side < 4; side++) {
            DeepHole x = new Workshop().way("a", 10, 0, 1).hard(0, 4, SIDES[side]).shop();
            boolean isX = side % 2 == 0;
            // 4, 5 or 6 away along x; 5 away along y, and 1 at most along x
            int[] due = {0, isX ? 1 : 0, isX ? 3 : 4, 4};
            for (int near = 3; near <= 6; near++) {
                Check.granted(x, "near " + near + " to the " + SIDES[side], x.odds(1, near), due[near - 3]);
            }
        }
    }

    /** "comes to the x of the TILT ahead of hold". */
    private static void scatterAheadOfHold() {
        DeepHole right = new Workshop().way("a", 10, 50, 1).shop();
        // 0, 1 and 2, halved
        Check.granted(right, "0 and 1 are 0 then", right.odds(1, 0), 3);
        Check.granted(right, "2 is 1 then", right.odds(1, 1), 4);
        DeepHole left = new Workshop().way("a", 5, 50, 1).hard(0, 1, "left").shop();
        Check.granted(left, "0 and -1 are 0 then", left.odds(1, 0), 3);
        Check.granted(left, "-2 is -1 then", left.odds(1, 1), 4);
        DeepHole held = new Workshop().rod(9, 10, 0).way("a", 99, 100, 1).shop();
        Check.granted(held, "held whole", held.odds(9, 0), power(9));
        DeepHole loose = new Workshop().way("a", 0, 0, 1).shop();
        Check.granted(loose, "not held", loose.odds(2, 2), 14);
        // y has no scatter
        DeepHole up = new Workshop().way("a", 10, 50, 1).hard(0, 2, "up").shop();
        Check.granted(up, "y is half of 3", up.odds(1, 0), 0);
        Check.granted(up, "y is half of 3", up.odds(1, 1), 4);
    }

    /** "the drill isn't BROKEN". */
    private static void oddsNotBroken() {
        for (int bears = 10; bears <= 12; bears++) {
            DeepHole x = new Workshop().lip(99, 50, 99, bears).way("a", 0, 0, 10).shop();
            // FORCES 10, 11, 12
            for (int n = 1; n <= 4; n++) {
                Check.granted(x, "odds(" + n + ") bears " + bears, x.odds(n, 999), n <= bears - 9 ? power(n) : 0);
                Check.granted(x, "rows(" + n + ") bears " + bears, x.rows(n), power(n));
            }
        }
    }

    /** "or OUT", at the last INCH and on the way. */
    private static void oddsNotOut() {
        for (int wall = 10; wall <= 12; wall++) {
            for (String side : new String[] {"right", "left"}) {
                DeepHole x = new Workshop().rod(5, wall, 0).way("a", 10, 0, 1).hard(0, 9, side).shop();
                // 9, 10 or 11 away
                Check.granted(x, "wall " + wall + " " + side, x.odds(1, 999), wall == 10 ? 1 : wall == 11 ? 3 : 4);
            }
            for (String side : new String[] {"up", "down"}) {
                DeepHole x = new Workshop().rod(5, wall, 0).way("a", 10, 0, 1).hard(0, 9, side).shop();
                Check.granted(x, "wall " + wall + " " + side, x.odds(1, 999), wall == 10 ? 0 : 4);
            }
        }
        // x is 9 and the first, then 9 and twice the first and the second: OUT at 10, though it would come back
        DeepHole x = new Workshop().rod(5, 10, 0).way("a", 9, 0, 1).hard(0, 9, "right").hard(1, 9, "left").shop();
        Check.granted(x, "not OUT on the way", x.odds(2, 999), 10);
        Check.granted(x, "as near as 8", x.odds(2, 8), 6);
        Check.granted(x, "as near as 7", x.odds(2, 7), 3);
        Check.granted(x, "as near as 6", x.odds(2, 6), 1);
        Check.granted(x, "as near as 5", x.odds(2, 5), 0);
    }

    /** "behind the last INCH": away on the way doesn't matter; "of a new rod, from the front". */
    private static void behindTheLastAlone() {
        DeepHole x = new Workshop().way("a", 10, 0, 1).hard(0, 4, "right").hard(1, 9, "left").shop();
        for (int i = 0; i < 2; i++) {
            Check.granted(x, "5 away at first", x.odds(1, 3), 0);
            Check.granted(x, "back again", x.odds(2, 0), 4);
            x.rod(true);
            x.drill(4);
            x.blow(1, 0, 99);
            x.felt(0, 1);
        }
    }

    /** "n 1 .. 7, no more than the rod's". */
    private static void cheapestBounds() {
        for (int inches : new int[] {2, 6, 7, 8, 30}) {
            DeepHole x = new Workshop().rod(inches, 999, 0).costs(99, 0, 0).shop();
            for (int n = 0; n <= 9; n++) {
                boolean fits = n >= 1 && n <= 7 && n <= inches;
                Check.refused(x, "cheapest(" + n + ") of " + inches, x.cheapest(n, 0), fits ? 25 * n : DeepHole.NONE,
                    fits ? 0 : 2);
                int kept = Math.min(n, Math.min(7, inches));
                for (int i = -1; i <= 8; i++) {
                    Check.due("feedAt(" + i + ")", x.feedAt(i), i >= 0 && i < kept ? 4 : DeepHole.NONE);
                }
            }
        }
        DeepHole x = new Workshop().shop();
        Check.refused(x, "the least n", x.cheapest(LEAST, 0), 2);
        Check.refused(x, "the most n", x.cheapest(MOST, 0), 2);
    }

    /** "FEEDS 1 .. 4": of one INCH, by what an INCH costs; "of like ones the least". */
    private static void cheapestFeeds() {
        int[][] due = {{0, 1, 1}, {1, 2, 1}, {2, 3, 1}, {3, 4, 1}, {4, 3, 2}, {5, 3, 2}, {6, 4, 2}, {7, 4, 2}, {8, 3, 3},
            {9, 4, 3}, {98, 4, 25}, {99, 4, 25}};
        for (int[] d : due) {
            DeepHole x = new Workshop().costs(d[0], 0, 0).shop();
            Check.granted(x, "an INCH for " + d[0], x.cheapest(1, 0), d[2]);
            Check.due("its FEED for " + d[0], x.feedAt(0), d[1]);
        }
    }

    /** "x and y are told so near". */
    private static void cheapestNear() {
        int[] cost = {100, 50, 34, 25};
        for (int side = 0; side < 4; side++) {
            DeepHole x = new Workshop().costs(99, 0, 0).way("a", 10, 0, 1).hard(0, 1, SIDES[side]).shop();
            // away by the FEED and 1
            Check.refused(x, "nearer than any to the " + SIDES[side], x.cheapest(1, 1), 6);
            Check.refused(x, "near 0 to the " + SIDES[side], x.cheapest(1, 0), 6);
            for (int near = 2; near <= 6; near++) {
                int feed = Math.min(4, near - 1);
                Check.granted(x, "near " + near + " to the " + SIDES[side], x.cheapest(1, near), cost[feed - 1]);
                Check.due("FEED", x.feedAt(0), feed);
            }
            Check.granted(x, "near 999", x.cheapest(1, 999), 25);
        }
    }

    /** "by which it isn't BROKEN". */
    private static void cheapestBorne() {
        int[] bears = {10, 19, 20, 29, 30, 39, 40, 41};
        int[] feed = {1, 1, 2, 2, 3, 3, 4, 4};
        int[] cost = {100, 50, 34, 25};
        for (int i = 0; i < bears.length; i++) {
            DeepHole x = new Workshop().lip(99, 50, 99, bears[i]).costs(99, 0, 0).way("a", 0, 0, 10).from(0, 9, "a").shop();
            Check.granted(x, "bears " + bears[i], x.cheapest(1, 0), cost[feed[i] - 1]);
            Check.due("FEED, bears " + bears[i], x.feedAt(0), feed[i]);
        }
        DeepHole none = new Workshop().lip(99, 50, 99, 10).way("a", 0, 0, 11).shop();
        Check.refused(none, "none is borne", none.cheapest(1, 999), 6);
        Check.due("no FEED", none.feedAt(0), DeepHole.NONE);
        // the second INCH's FORCE is 11
        DeepHole later = new Workshop().lip(99, 50, 99, 10).way("a", 0, 0, 10).shop();
        Check.granted(later, "one is borne", later.cheapest(1, 0), 1);
        Check.refused(later, "two are not", later.cheapest(2, 0), 6);
        Check.due("the FEED found stays", later.feedAt(0), 1);
    }

    /** "or OUT". */
    private static void cheapestNotOut() {
        for (int side = 0; side < 4; side++) {
            for (int wall = 12; wall <= 14; wall++) {
                // away by 25 times the FEED and 1 by 10: 5, 7, 10, 12
                DeepHole x = new Workshop().rod(5, wall, 0).costs(99, 0, 0).way("a", 25, 0, 1).hard(0, 1, SIDES[side]).shop();
                Check.granted(x, "wall " + wall + " to the " + SIDES[side], x.cheapest(1, 999), wall == 12 ? 34 : 25);
            }
        }
        // 9 away, then 18 more
        DeepHole later = new Workshop().rod(5, 27, 0).way("a", 90, 0, 1).shop();
        Check.granted(later, "not OUT at 9", later.cheapest(1, 999), 1);
        Check.refused(later, "OUT at 27", later.cheapest(2, 999), 6);
        DeepHole wide = new Workshop().rod(5, 28, 0).way("a", 90, 0, 1).shop();
        Check.granted(wide, "not OUT at 27", wide.cheapest(2, 999), 2);
    }

    /** "of like ones the least FEEDS from the first on". */
    private static void likeCosts() {
        // CHIPS of more than 5 times 3 are too many by the second INCH: 2 and 3 cost what 3 and 2 do
        DeepHole x = new Workshop().lip(99, 0, 14, 10).costs(12, 0, 0).shop();
        Check.granted(x, "2 and 3", x.cheapest(2, 0), 12);
        Check.due("the first", x.feedAt(0), 2);
        Check.due("the second", x.feedAt(1), 3);
        // FEEDS 2 and 3 cost the same: 2 and 2 come ahead of 2 and 3
        DeepHole y = new Workshop().lip(99, 0, 14, 10).costs(3, 0, 0).shop();
        Check.granted(y, "2 and 2", y.cheapest(2, 0), 4);
        Check.due("the first", y.feedAt(0), 2);
        Check.due("the second", y.feedAt(1), 2);
        DeepHole free = new Workshop().rod(7, 999, 0).shop();
        Check.granted(free, "all alike", free.cheapest(7, 0), 7);
        for (int i = 0; i < 7; i++) {
            Check.due("the least FEED", free.feedAt(i), 1);
        }
    }

    /** "(WAYS, draws, sharpenings by the plan)": the plan's FEEDS don't count. */
    private static void byThePlan() {
        DeepHole drawn = new Workshop().lip(99, 0, 14, 10).costs(12, 50, 5).from(0, 9, "a").from(1, 9, "a draw").shop();
        Check.granted(drawn, "a draw makes room", drawn.cheapest(2, 0), 4 + 4 + 5);
        Check.due("the second", drawn.feedAt(1), 4);
        DeepHole sharp = new Workshop().lip(99, 0, 14, 10).costs(12, 50, 5).from(0, 1, "a").from(1, 1, "a sharpen").shop();
        // without WEAR 2 is borne behind 4
        Check.granted(sharp, "a sharpening costs", sharp.cheapest(2, 0), 4 + 7 + 50);
        Check.due("the first", sharp.feedAt(0), 4);
        Check.due("the second", sharp.feedAt(1), 2);
        DeepHole behind = new Workshop().lip(99, 0, 14, 10).costs(12, 50, 5)
            .from(0, 1, "a").from(2, 1, "a draw sharpen").shop();
        Check.granted(behind, "what is behind n costs nothing", behind.cheapest(2, 0), 12);
        // 50 times 2, and WEAR 1
        for (int bears = 100; bears <= 101; bears++) {
            DeepHole ways = new Workshop().lip(99, 50, 99, bears).costs(99, 0, 0).way("a", 0, 0, 1).way("b", 0, 0, 50)
                .from(0, 1, "a").from(1, 1, "b").from(2, 1, "a").shop();
            Check.granted(ways, "by b, bears " + bears, ways.cheapest(3, 0), 25 + (bears == 100 ? 100 : 50) + 25);
            Check.due("FEED by a", ways.feedAt(0), 4);
            Check.due("FEED by b", ways.feedAt(1), bears - 99);
            Check.due("FEED by a again", ways.feedAt(2), 4);
        }
    }

    /** "by the latest cheapest() since shop() that told a COST; NONE for none such". */
    private static void feedsKept() {
        DeepHole x = new Workshop().costs(3, 0, 0).way("a", 10, 0, 1).shop();
        Check.due("none yet", x.feedAt(0), DeepHole.NONE);
        Check.refused(x, "6 ahead of any", x.cheapest(1, 0), 6);
        Check.due("none yet", x.feedAt(0), DeepHole.NONE);
        Check.granted(x, "two", x.cheapest(2, 999), 2);
        for (int i : new int[] {LEAST, -1, 2, 3, 7, MOST}) {
            Check.due("feedAt(" + i + ")", x.feedAt(i), DeepHole.NONE);
        }
        Check.refused(x, "refused by 6", x.cheapest(3, 0), 6);
        Check.refused(x, "refused by 2", x.cheapest(0, 0), 2);
        Check.due("FEED 0 stays", x.feedAt(0), 4);
        Check.due("FEED 1 stays", x.feedAt(1), 4);
        Check.due("no third", x.feedAt(2), DeepHole.NONE);
        Check.refused(x, "a wrong text", Check.told(x, "rod"), 4);
        Check.due("FEED 1 stays with the SHOP", x.feedAt(1), 4);
        Check.granted(x, "a shorter one", x.cheapest(1, 1), 4);
        Check.due("its FEED", x.feedAt(0), 1);
        Check.due("no second", x.feedAt(1), DeepHole.NONE);
        Check.told(x, new Workshop().text());
        Check.due("none since shop()", x.feedAt(0), DeepHole.NONE);
    }

    /** "MET at m (1 .. inches less 1)". */
    private static void metBounds() {
        for (int inches : new int[] {2, 3, 29, 30}) {
            DeepHole x = new Workshop().rod(inches, 999, 0).shop();
            for (int m : new int[] {LEAST, -1, 0, inches, inches + 1, MOST}) {
                Check.refused(x, "met(" + m + ") of " + inches, x.met(m), 2);
            }
            for (int m = 1; m < inches; m++) {
                Check.granted(x, "met(" + m + ") of " + inches, x.met(m), 0);
            }
        }
    }

    /** "6 (one of them doesn't get that INCH done)". */
    private static void metDone() {
        for (int bears = 31; bears <= 32; bears++) {
            // 30 and WEAR 2 at INCH 2, from the front or from BACKWARD
            Workshop front = new Workshop().rod(4, 999, 0).lip(99, 50, 99, bears).way("a", 0, 0, 10).hard(2, 5, "up")
                .from(0, 1, "a").from(2, 2, "a");
            Workshop back = new Workshop().rod(4, 999, 0).lip(99, 50, 99, bears).way("a", 0, 0, 10).hard(1, 5, "up")
                .from(0, 1, "a").from(2, 2, "a");
            boolean isBroken = bears == 31;
            DeepHole x = front.shop();
            Check.granted(x, "met(1)", x.met(1), 0);
            Check.granted(x, "met(2)", x.met(2), 0);
            Check.refused(x, "met(3)", x.met(3), isBroken ? DeepHole.NONE : 0, isBroken ? 6 : 0);
            Check.granted(x, "meet()", x.meet(), 1);
            DeepHole y = back.shop();
            Check.refused(y, "met(1)", y.met(1), isBroken ? DeepHole.NONE : 0, isBroken ? 6 : 0);
            Check.granted(y, "met(2)", y.met(2), 0);
            Check.granted(y, "met(3)", y.met(3), 0);
            Check.granted(y, "meet()", y.meet(), isBroken ? 2 : 1);
        }
    }

    /** An INCH at which it is OUT is done; the one behind it isn't. */
    private static void metOut() {
        // from both ends: 9, 27 and so on; wall 10: OUT at INCH 1
        DeepHole x = new Workshop().rod(4, 10, 0).way("a", 90, 0, 1).shop();
        Check.refused(x, "met(1): INCH 2 from BACKWARD", x.met(1), 6);
        Check.granted(x, "met(2): INCHES 1", x.met(2), 0);
        Check.refused(x, "met(3): INCH 2 from the front", x.met(3), 6);
        Check.granted(x, "meet()", x.meet(), 2);
        DeepHole five = new Workshop().rod(5, 10, 0).way("a", 90, 0, 1).shop();
        for (int m = 1; m <= 4; m++) {
            Check.refused(five, "met(" + m + ")", five.met(m), 6);
        }
        Check.refused(five, "meet() at none", five.meet(), 6);
    }

    /** "x's and y's differences, without sign, together"; "The m at which it is least, the first such". */
    private static void meets() {
        Workshop[] all = {
            new Workshop().rod(4, 999, 0).way("a", 10, 0, 1).hard(1, 4, "up"),
            new Workshop().rod(4, 999, 0).way("a", 10, 0, 1).hard(2, 4, "down"),
            new Workshop().rod(3, 999, 0).way("a", 10, 0, 1).hard(0, 9, "left"),
            new Workshop().rod(3, 999, 0).way("a", 10, 0, 1).hard(2, 9, "left"),
            new Workshop().rod(4, 999, 9).way("a", 10, 0, 1).hard(2, 9, "left")};
        int[][] due = {{9, 6, 13}, {13, 6, 9}, {13, 20}, {20, 13}, {0, 0, 0}};
        int[] least = {2, 2, 1, 2, 1};
        for (int i = 0; i < all.length; i++) {
            DeepHole x = all[i].shop();
            for (int m = 1; m <= due[i].length; m++) {
                Check.granted(x, "met(" + m + ") of rod " + i, x.met(m), due[i][m - 1]);
            }
            Check.granted(x, "meet() of rod " + i, x.meet(), least[i]);
            x.rod(true);
            x.drill(3);
            x.blow(1, 1, 99);
            Check.granted(x, "met(1) of new rods " + i, x.met(1), due[i][0]);
            Check.granted(x, "meet() of new rods " + i, x.meet(), least[i]);
        }
    }
}
