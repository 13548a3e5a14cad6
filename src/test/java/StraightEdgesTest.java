/** TRUE, OFF, RING, BLOWS, STRAIGHT, FEWEST and HEAT of Terms III and promises 21 to 28, edge by edge. */
public final class StraightEdgesTest {
    private static final int LEAST = Integer.MIN_VALUE;
    private static final int MOST = Integer.MAX_VALUE;
    private static final String[] SIDES = {"right", "up", "left", "down"};
    private static final int[] SIDE_X = {1, 0, -1, 0};
    private static final int[] SIDE_Y = {0, 1, 0, -1};

    public static void main(String[] args) {
        threeInches();
        offInches();
        trueTowardsZero();
        trueFromAway();
        ringFirst();
        ringSides();
        seers();
        blowInches();
        blowNumbers();
        blowMoves();
        blowRoom();
        blowsKeepTheEnds();
        heats();
        eachBlowByItself();
        drillBehindHeat();
        straightBy();
        fewestNumbers();
        howFew();
        fewestFirst();
        fewestOfThisRod();
        strokesKept();
        abouts();
        Check.end("StraightEdgesTest");
    }

    private static DeepHole still(int inches) {
        return new Workshop().rod(inches, 50, 9).seer("r", 1).seer("s", 7).seer("t", 8).seer("u", 9).drilled(inches);
    }

    private static void places(String what, DeepHole x, int number, int... due) {
        for (int i = 0; i < due.length; i++) {
            Check.granted(x, what + " of INCH " + i, x.inch(i, number), due[i]);
        }
    }

    /** A rod of three INCHES, struck in its middle so that OFF there is x and y. */
    private static DeepHole bent(int x, int y) {
        DeepHole hole = still(3);
        bend(hole, Math.abs(x), x < 0 ? 0 : 2);
        bend(hole, Math.abs(y), y < 0 ? 1 : 3);
        return hole;
    }

    private static void bend(DeepHole hole, int far, int side) {
        for (int left = far; left > 0; left -= 99) {
            hole.blow(1, side, Math.min(99, left));
        }
    }

    /** "5 (fewer than three INCHES are done)". */
    private static void threeInches() {
        for (int n = 0; n <= 3; n++) {
            DeepHole x = new Workshop().rod(5, 50, 0).seer("s", 1).shop();
            for (int i = 0; i < n; i++) {
                x.drill(1);
            }
            boolean fits = n == 3;
            int number = fits ? 0 : 5;
            if (n > 0) {
                Check.refused(x, "off of " + n, x.off(n - 1, true), fits ? 0 : Check.NOWHERE, number);
            }
            Check.refused(x, "off of an INCH not done, " + n, x.off(n, true), Check.NOWHERE, 1);
            Check.refused(x, "ring of " + n, x.ring(0), fits ? 0 : DeepHole.NONE, number);
            Check.refused(x, "sees of " + n, x.sees(0), fits ? 0 : DeepHole.NONE, number);
            Check.refused(x, "about of " + n, x.about(), fits ? 50 : DeepHole.NONE, number);
            Check.refused(x, "fewest of " + n, x.fewest(1, 0), fits ? 0 : DeepHole.NONE, number);
            Check.refused(x, "blow of " + n, x.blow(1, 0, 1), fits ? 1 : DeepHole.NONE, number);
            Check.granted(x, "heat of " + n, x.heat(), fits ? 1 : 0);
        }
        DeepHole two = new Workshop().rod(2, 50, 0).drilled(2);
        Check.refused(two, "a rod of two, through", two.ring(0), 5);
    }

    private static void offInches() {
        DeepHole x = new Workshop().rod(5, 50, 0).drilled(4);
        for (int i : new int[] {LEAST, -1, 4, 5, MOST}) {
            Check.refused(x, "off(" + i + ")", x.off(i, false), Check.NOWHERE, 1);
        }
        for (int i = 0; i < 4; i++) {
            Check.granted(x, "off(" + i + ")", x.off(i, false), 0);
            Check.granted(x, "off(" + i + ") of y", x.off(i, true), 0);
        }
        DeepHole long30 = new Workshop().rod(30, 50, 0).drilled(30);
        Check.granted(long30, "off(29)", long30.off(29, true), 0);
        Check.refused(long30, "off(30)", long30.off(30, true), Check.NOWHERE, 1);
    }

    /** "(last less first) times i by (how many less 1), towards 0": the last INCH alone lies 10 away. */
    private static void trueTowardsZero() {
        for (int side = 0; side < 4; side++) {
            DeepHole x = new Workshop().rod(4, 999, 3).way("a", 10, 0, 1).hard(3, 9, SIDES[side]).drilled(4);
            int[] line = {0, 3, 6, 10};
            for (int i = 0; i < 4; i++) {
                int at = i == 3 ? 10 : 0;
                Check.granted(x, "x, " + SIDES[side], x.off(i, false), (at - line[i]) * SIDE_X[side]);
                Check.granted(x, "y, " + SIDES[side], x.off(i, true), (at - line[i]) * SIDE_Y[side]);
            }
            Check.granted(x, "ring's INCH", x.ring(0), 2);
            Check.granted(x, "ring", x.ring(1), 6);
            Check.granted(x, "ring's side", x.ring(2), (side + 2) % 4);
            Check.granted(x, "about", x.about(), 993);
        }
    }

    /** "first and ..": the first PLACE lies 10 away, the last one in the middle. */
    private static void trueFromAway() {
        for (int side = 0; side < 4; side++) {
            String back = SIDES[(side + 2) % 4];
            DeepHole x = new Workshop().rod(3, 999, 0).way("a", 10, 0, 1).hard(0, 9, SIDES[side]).hard(1, 9, back)
                .hard(2, 9, back).drilled(3);
            // 10, 10, 0 along that side; the line is 10, 5, 0
            int[] off = {0, 5, 0};
            for (int i = 0; i < 3; i++) {
                Check.granted(x, "x, " + SIDES[side], x.off(i, false), off[i] * SIDE_X[side]);
                Check.granted(x, "y, " + SIDES[side], x.off(i, true), off[i] * SIDE_Y[side]);
            }
            Check.granted(x, "ring's side", x.ring(2), side);
        }
    }

    /** "the INCH with the greatest OFF (x's and y's, without sign, together), the first such". */
    private static void ringFirst() {
        DeepHole x = still(5);
        Check.granted(x, "all alike: the first of all", x.ring(0), 0);
        Check.granted(x, "nothing", x.ring(1), 0);
        Check.granted(x, "right, not below 0", x.ring(2), 0);
        x.blow(3, 0, 9);
        Check.granted(x, "INCH 3", x.ring(0), 3);
        x.blow(1, 2, 9);
        // -3, -6, -9 and 9, 6, 3
        Check.granted(x, "6 at INCHES 1 and 3", x.ring(0), 1);
        Check.granted(x, "6", x.ring(1), 6);
        Check.granted(x, "to the right", x.ring(2), 0);
        x.blow(3, 1, 1);
        Check.granted(x, "7 at INCH 3", x.ring(0), 3);
        Check.granted(x, "7", x.ring(1), 7);
        Check.granted(x, "to the left", x.ring(2), 2);
        for (int what : new int[] {LEAST, -1, 3, MOST}) {
            Check.refused(x, "ring(" + what + ")", x.ring(what), 1);
        }
    }

    /** "right if x's is no less than y's without sign and not below 0, left if below; else up or down". */
    private static void ringSides() {
        int[][] due = {{5, 5, 0}, {5, -5, 0}, {-5, 5, 2}, {-5, -5, 2}, {5, 4, 0}, {-5, 4, 2}, {5, -4, 0}, {-5, -4, 2},
            {4, 5, 1}, {-4, 5, 1}, {4, -5, 3}, {-4, -5, 3}, {1, 0, 0}, {-1, 0, 2}, {0, 1, 1}, {0, -1, 3}, {0, 0, 0}};
        for (int[] d : due) {
            DeepHole x = bent(d[0], d[1]);
            Check.granted(x, "side of " + d[0] + ", " + d[1], x.ring(2), d[2]);
            Check.granted(x, "size of " + d[0] + ", " + d[1], x.ring(1), Math.abs(d[0]) + Math.abs(d[1]));
            Check.granted(x, "x", x.off(1, false), d[0]);
            Check.granted(x, "y", x.off(1, true), d[1]);
        }
    }

    /** "A SEER sees it if it is no less than told". */
    private static void seers() {
        int[] sees = {1, 7, 8, 9};
        for (int size = 0; size <= 10; size++) {
            DeepHole x = bent(-(size / 2), size - size / 2);
            for (int seer = 0; seer < 4; seer++) {
                Check.granted(x, "ring of " + size + " by one who sees " + sees[seer], x.sees(seer),
                    size >= sees[seer] ? 1 : 0);
            }
        }
        DeepHole x = new Workshop().rod(3, 999, 9).seer("s", 99).drilled(3);
        x.blow(1, 0, 98);
        Check.granted(x, "98", x.sees(0), 0);
        x.blow(1, 0, 1);
        Check.granted(x, "99", x.sees(0), 1);
        for (int seer : new int[] {LEAST, -1, 1, 2, 3, 4, MOST}) {
            Check.refused(x, "sees(" + seer + ") of one", x.sees(seer), 1);
        }
        DeepHole none = new Workshop().rod(3, 999, 9).drilled(3);
        Check.refused(none, "sees(0) of none", none.sees(0), 1);
    }

    /** "at INCH i (1 .. how many less 2)". */
    private static void blowInches() {
        for (int many : new int[] {3, 4, 29, 30}) {
            DeepHole x = new Workshop().rod(30, 999, 9).drilled(many);
            for (int i : new int[] {LEAST, -1, 0, many - 1, many, 30, MOST}) {
                Check.refused(x, "blow at " + i + " of " + many, x.blow(i, 0, 1), 1);
            }
            Check.granted(x, "blow at 1 of " + many, x.blow(1, 0, 1), 1);
            Check.granted(x, "blow at the last but one of " + many, x.blow(many - 2, 0, 1), 2);
        }
    }

    /** "by b (1 .. 99)", "side (0 right, 1 up, 2 left, 3 down)". */
    private static void blowNumbers() {
        DeepHole x = still(3);
        for (int b : new int[] {LEAST, -1, 0, 100, MOST}) {
            Check.refused(x, "blow by " + b, x.blow(1, 0, b), 2);
        }
        for (int side : new int[] {LEAST, -1, 4, MOST}) {
            Check.refused(x, "blow from " + side, x.blow(1, side, 1), 1);
        }
        places("x", x, 0, 0, 0, 0);
        places("y", x, 1, 0, 0, 0);
        Check.granted(x, "blow by 1", x.blow(1, 0, 1), 1);
        places("x", x, 0, 0, -1, 0);
        Check.granted(x, "blow by 99", x.blow(1, 3, 99), 2);
        places("y", x, 1, 0, 99, 0);
    }

    /** "by b times k by i up to i, by b times (last k less k) by (last k less i) behind it, towards 0". */
    private static void blowMoves() {
        int[][] due = {{1, 99, 0, 99, 66, 33, 0}, {2, 99, 0, 49, 99, 49, 0}, {3, 99, 0, 33, 66, 99, 0}, {1, 10, 0, 10, 6, 3, 0},
            {3, 10, 0, 3, 6, 10, 0}, {2, 1, 0, 0, 1, 0, 0}, {1, 2, 0, 2, 1, 0, 0}, {3, 2, 0, 0, 1, 2, 0}, {3, 1, 0, 0, 0, 1, 0}};
        for (int[] d : due) {
            for (int side = 0; side < 4; side++) {
                DeepHole x = still(5);
                x.blow(d[0], side, d[1]);
                for (int k = 0; k < 5; k++) {
                    String what = "INCH " + k + " by " + d[1] + " at " + d[0] + " from " + SIDES[side];
                    Check.granted(x, what + ", x", x.inch(k, 0), -d[2 + k] * SIDE_X[side]);
                    Check.granted(x, what + ", y", x.inch(k, 1), -d[2 + k] * SIDE_Y[side]);
                }
            }
        }
    }

    /** "3 (20 are)". */
    private static void blowRoom() {
        DeepHole x = still(3);
        for (int i = 1; i <= 20; i++) {
            Check.granted(x, "blow", x.blow(1, 0, 1), i);
        }
        Check.refused(x, "the 21st", x.blow(1, 0, 1), 3);
        Check.due("20 are", x.state(3), 20);
        places("x", x, 0, 0, -20, 0);
        Check.granted(x, "heat", x.heat(), 20);
        Check.due("none is", x.state(3), 0);
        Check.granted(x, "room again", x.blow(1, 0, 1), 1);
        x.rod(false);
        Check.due("none is on a new rod", x.state(3), 0);
    }

    /** The first PLACE and the last one never move; FORCE, WEAR, CHIPS and TILT stay. */
    private static void blowsKeepTheEnds() {
        DeepHole x = new Workshop().rod(4, 999, 0).way("a", 10, 0, 1).lip(10, 0, 99, 999).drilled(4);
        places("x", x, 0, 1, 3, 6, 10);
        x.blow(2, 0, 7);
        places("x", x, 0, 1, 3 - 3, 6 - 7, 10);
        places("FORCE", x, 2, 1, 3, 5, 7);
        places("WEAR", x, 3, 2, 4, 6, 8);
        places("CHIPS", x, 4, 3, 6, 9, 12);
        places("tilt", x, 5, 1, 2, 3, 4);
        Check.due("COST", x.state(1), 4);
        Check.due("through", x.state(2), 3);
    }

    /** "each BLOW goes back by half of what it moved each PLACE (towards 0), BLOWS are forgotten". */
    private static void heats() {
        for (int b = 1; b <= 5; b++) {
            for (int side = 0; side < 4; side++) {
                DeepHole x = still(5);
                x.blow(1, side, b);
                int[] moved = {0, b, b * 2 / 3, b / 3, 0};
                Check.granted(x, "heat", x.heat(), 1);
                for (int k = 0; k < 5; k++) {
                    int left = moved[k] - moved[k] / 2;
                    Check.granted(x, "x left of " + moved[k], x.inch(k, 0), -left * SIDE_X[side]);
                    Check.granted(x, "y left of " + moved[k], x.inch(k, 1), -left * SIDE_Y[side]);
                }
                Check.granted(x, "heat again", x.heat(), 0);
                Check.granted(x, "nothing moves", x.inch(1, side % 2), side < 2 ? -(b - b / 2) : b - b / 2);
            }
        }
        DeepHole none = new Workshop().shop();
        Check.granted(none, "heat of no INCH", none.heat(), 0);
    }

    private static void eachBlowByItself() {
        DeepHole x = still(3);
        for (int i = 0; i < 4; i++) {
            x.blow(1, 0, 1);
        }
        Check.granted(x, "heat", x.heat(), 4);
        places("half of 1 is 0, four times", x, 0, 0, -4, 0);
        DeepHole y = still(3);
        y.blow(1, 0, 3);
        y.blow(1, 2, 5);
        Check.granted(y, "heat", y.heat(), 2);
        // -3 and 1, 5 less 2
        places("to both sides", y, 0, 0, 1, 0);
    }

    /** A drill goes on behind HEAT, and TRUE is that of the INCHES done then. */
    private static void drillBehindHeat() {
        DeepHole x = new Workshop().rod(5, 999, 0).way("a", 10, 0, 1).drilled(3);
        x.blow(1, 0, 9);
        Check.refused(x, "drill with a BLOW", x.drill(1), 5);
        x.heat();
        Check.granted(x, "drill behind HEAT", x.drill(1), 1);
        places("x", x, 0, 1, 3 - 9 + 4, 6, 10);
        // the line is 1, 4, 7, 10
        Check.granted(x, "off", x.off(1, false), -6);
        Check.granted(x, "off", x.off(2, false), -1);
    }

    /** "of no INCH x's and y's OFF, without sign, together above t". */
    private static void straightBy() {
        int[][] all = {{5, 4}, {-5, 4}, {5, -4}, {-5, -4}, {9, 0}, {0, -9}};
        for (int[] at : all) {
            DeepHole x = bent(at[0], at[1]);
            Check.granted(x, "by 10", x.fewest(1, 10), 0);
            Check.granted(x, "by 9", x.fewest(1, 9), 0);
            Check.granted(x, "by 8", x.fewest(1, 8), 1);
            Check.granted(x, "by 7", x.fewest(1, 7), 2);
            Check.refused(x, "by 6", x.fewest(1, 6), 6);
        }
    }

    /** "by a told b", "STRAIGHT by t (0 .. 999)". */
    private static void fewestNumbers() {
        DeepHole x = bent(0, 0);
        for (int b : new int[] {LEAST, -1, 0, 100, MOST}) {
            Check.refused(x, "fewest by " + b, x.fewest(b, 0), 2);
        }
        for (int t : new int[] {LEAST, -1, 1000, MOST}) {
            Check.refused(x, "fewest to " + t, x.fewest(1, t), 2);
        }
        for (int b : new int[] {1, 2, 98, 99}) {
            for (int t : new int[] {0, 1, 998, 999}) {
                Check.granted(x, "fewest by " + b + " to " + t, x.fewest(b, t), 0);
            }
        }
        DeepHole far = bent(999, 0);
        Check.granted(far, "999 to 999", far.fewest(99, 999), 0);
        Check.granted(far, "999 to 998", far.fewest(99, 998), 1);
        Check.granted(far, "999 to 801", far.fewest(99, 801), 2);
        Check.refused(far, "999 to 800", far.fewest(99, 800), 6);
        DeepHole farther = bent(999, 1);
        Check.granted(farther, "1000 to 999", farther.fewest(99, 999), 1);
    }

    /** "0, 1 or 2 BLOWS"; "6 (not by two)". */
    private static void howFew() {
        int[] due = {0, 1, 2, -1, -1};
        for (int n = 0; n < 5; n++) {
            for (int side = 0; side < 4; side++) {
                DeepHole x = still(3);
                for (int i = 0; i < n; i++) {
                    x.blow(1, side, 7);
                }
                Check.refused(x, n + " BLOWS from " + SIDES[side], x.fewest(7, 0), due[n], due[n] < 0 ? 6 : 0);
                for (int i = 0; i < 3; i++) {
                    int stroke = i < due[n] ? 10 + (side + 2) % 4 : DeepHole.NONE;
                    Check.due("stroke(" + i + ")", x.stroke(i), stroke);
                }
                Check.due("nothing is struck by it", x.state(3), n);
            }
        }
    }

    /** "of like ones the first by the first BLOW's INCH, side (right, up, left, down), then the second's". */
    private static void fewestFirst() {
        DeepHole x = still(4);
        // two INCHES, four sides: one BLOW that does all but nothing to a straight rod
        x.blow(1, 0, 9);
        x.blow(2, 1, 9);
        // x 0, -9, -4, 0; y 0, -4, -9, 0: 13 at both; from the left at 1 it is 4 and 9, 0 and 9
        Check.granted(x, "one that leaves 9", x.fewest(9, 9), 1);
        Check.due("at INCH 1 from the left", x.stroke(0), 12);
        Check.granted(x, "two that leave 0", x.fewest(9, 0), 2);
        Check.due("the first", x.stroke(0), 12);
        Check.due("the second", x.stroke(1), 23);
        DeepHole y = still(4);
        y.blow(2, 0, 9);
        y.blow(1, 1, 9);
        Check.granted(y, "two that leave 0", y.fewest(9, 0), 2);
        Check.due("the first", y.stroke(0), 13);
        Check.due("the second", y.stroke(1), 22);
        DeepHole like = still(4);
        like.blow(1, 2, 5);
        like.blow(2, 2, 5);
        // x 0, 7, 7, 0: from the right at 1 or at 2 one leaves 2 and 5, or 5 and 2
        Check.granted(like, "one at 1 or 2", like.fewest(5, 5), 1);
        Check.due("the first INCH", like.stroke(0), 10);
        Check.granted(like, "two, either way round", like.fewest(5, 0), 2);
        Check.due("the lower INCH first", like.stroke(0), 10);
        Check.due("the higher one second", like.stroke(1), 20);
        DeepHole cross = bent(6, 6);
        // from the right or from above: 6 is left
        Check.granted(cross, "right ahead of up", cross.fewest(6, 6), 1);
        Check.due("from the right", cross.stroke(0), 10);
        Check.granted(cross, "right, then up", cross.fewest(6, 0), 2);
        Check.due("from the right", cross.stroke(0), 10);
        Check.due("from above", cross.stroke(1), 11);
        DeepHole other = bent(-6, -6);
        Check.granted(other, "left ahead of down", other.fewest(6, 6), 1);
        Check.due("from the left", other.stroke(0), 12);
        Check.granted(other, "left, then down", other.fewest(6, 0), 2);
        Check.due("from the left", other.stroke(0), 12);
        Check.due("from below", other.stroke(1), 13);
        DeepHole last = still(30 - 1);
        last.blow(27, 3, 9);
        Check.granted(last, "the last INCH, the last side", last.fewest(9, 0), 1);
        Check.due("10 times 27 and 1", last.stroke(0), 271);
    }

    /** "at INCH i (1 .. how many less 2)", "by a told b": none at the last INCH, as a longer rod had one there by 40. */
    private static void fewestOfThisRod() {
        DeepHole x = still(10);
        Check.granted(x, "a long rod", x.fewest(40, 0), 0);
        x.rod(false);
        Check.granted(x, "a shorter hole", x.drill(5), 5);
        x.blow(3, 2, 99);
        x.blow(3, 2, 1);
        Check.granted(x, "100 at INCH 3", x.ring(1), 100);
        Check.granted(x, "two leave 98", x.fewest(1, 98), 2);
        Check.due("at INCH 3", x.stroke(0), 30);
        Check.due("at INCH 3 again", x.stroke(1), 30);
        Check.granted(x, "one leaves 99", x.fewest(1, 99), 1);
        Check.refused(x, "none leave 97", x.fewest(1, 97), 6);
        Check.refused(x, "none leave 80", x.fewest(1, 80), 6);
    }

    /** "of the latest fewest() since shop() that told a number .. NONE for none such". */
    private static void strokesKept() {
        DeepHole x = still(3);
        Check.due("none yet", x.stroke(0), DeepHole.NONE);
        x.blow(1, 0, 9);
        x.blow(1, 0, 9);
        x.fewest(9, 0);
        for (int i : new int[] {LEAST, -1, 2, 3, MOST}) {
            Check.due("stroke(" + i + ")", x.stroke(i), DeepHole.NONE);
        }
        Check.refused(x, "refused by 6", x.fewest(1, 0), 6);
        Check.refused(x, "refused by 2", x.fewest(0, 0), 2);
        Check.due("the first stays", x.stroke(0), 12);
        Check.due("the second stays", x.stroke(1), 12);
        x.rod(true);
        Check.refused(x, "refused by 5", x.fewest(1, 0), 5);
        Check.due("they stay with a new rod", x.stroke(1), 12);
        Check.refused(x, "a wrong text", Check.told(x, "rod"), 4);
        Check.due("they stay with the SHOP", x.stroke(1), 12);
        x.drill(3);
        x.blow(1, 1, 5);
        Check.granted(x, "one", x.fewest(5, 0), 1);
        Check.due("the one", x.stroke(0), 13);
        Check.due("no second", x.stroke(1), DeepHole.NONE);
        Check.told(x, new Workshop().text());
        Check.due("none since shop()", x.stroke(0), DeepHole.NONE);
        DeepHole shorter = still(20);
        shorter.blow(10, 0, 99);
        Check.granted(shorter, "a long rod", shorter.fewest(99, 0), 1);
        shorter.rod(false);
        shorter.drill(3);
        Check.granted(shorter, "INCHES of a rod before this one don't count", shorter.fewest(99, 0), 0);
        DeepHole y = bent(3, 0);
        y.fewest(3, 0);
        Check.granted(y, "a number of 0 is told", y.fewest(3, 3), 0);
        Check.due("of which no BLOW is", y.stroke(0), DeepHole.NONE);
    }

    /** "wall less the greatest OFF of x or y, without sign". */
    private static void abouts() {
        int[][] due = {{0, 0, 50}, {1, 0, 49}, {-1, 0, 49}, {0, 1, 49}, {0, -1, 49}, {7, 8, 42}, {-8, 7, 42}, {-7, -8, 42},
            {8, 8, 42}, {49, 0, 1}, {50, 0, 0}, {51, 0, -1}, {0, -52, -2}, {0, 198, -148}};
        for (int[] d : due) {
            DeepHole x = bent(d[0], d[1]);
            Check.granted(x, "about " + d[0] + ", " + d[1], x.about(), d[2]);
        }
        // x is greatest at INCH 1, y at INCH 3
        DeepHole x = still(5);
        x.blow(1, 0, 9);
        x.blow(3, 1, 12);
        Check.granted(x, "of all INCHES", x.about(), 38);
    }
}
