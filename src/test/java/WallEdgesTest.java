/** WALLS, CAN LIE and NEXT of Terms III and promises 29 to 32, edge by edge. */
public final class WallEdgesTest {
    private static final int LEAST = Integer.MIN_VALUE;
    private static final int MOST = Integer.MAX_VALUE;

    public static void main(String[] args) {
        wallInches();
        wallNumbers();
        clears();
        unmeasured();
        steps();
        middleLeast();
        middleGreatest();
        outerOnes();
        justPossible();
        tooFewForThree();
        onAndOn();
        lowsAlone();
        highsAlone();
        toldAnew();
        newShop();
        nexts();
        Check.end("WallEdgesTest");
    }

    private static DeepHole rod(int inches, int wall) {
        return new Workshop().rod(inches, wall, 0).shop();
    }

    private static void tell(DeepHole x, int i, int low, int high) {
        Check.granted(x, "wall(" + i + ", " + low + ", " + high + ")", x.wall(i, low, high) ? 1 : 0, 1);
    }

    private static void lies(DeepHole x, int i, int k, int low, int high) {
        Check.granted(x, "lies(" + i + ", " + k + ", false)", x.lies(i, k, false), low);
        Check.granted(x, "lies(" + i + ", " + k + ", true)", x.lies(i, k, true), high);
    }

    private static void empty(DeepHole x, int i, int k) {
        Check.refused(x, "lies(" + i + ", " + k + ", false)", x.lies(i, k, false), Check.NOWHERE, 6);
        Check.refused(x, "lies(" + i + ", " + k + ", true)", x.lies(i, k, true), Check.NOWHERE, 6);
        Check.refused(x, "next(" + k + ")", x.next(k), 6);
    }

    /** "1 (no SHOP, INCH of the rod)". */
    private static void wallInches() {
        for (int inches : new int[] {2, 3, 29, 30}) {
            DeepHole x = rod(inches, 999);
            for (int i : new int[] {LEAST, -1, inches, inches + 1, 30, MOST}) {
                Check.refused(x, "wall at " + i + " of " + inches, x.wall(i, 0, 0) ? 1 : 0, 0, 1);
                Check.refused(x, "lies at " + i + " of " + inches, x.lies(i, 0, true), Check.NOWHERE, 1);
            }
            tell(x, 0, -5, 5);
            tell(x, inches - 1, -6, 6);
            lies(x, 0, 99, -5, 5);
            lies(x, inches - 1, 99, -6, 6);
        }
    }

    /** "2 (-999 .. 999, the first above the second)". */
    private static void wallNumbers() {
        int[][] wrong = {{-1000, 0}, {-1000, -1000}, {0, 1000}, {1000, 1000}, {1, 0}, {0, -1}, {999, 998}, {-998, -999},
            {LEAST, 0}, {0, MOST}, {MOST, LEAST}, {MOST, MOST}, {LEAST, LEAST}};
        int[][] right = {{-999, 0}, {-999, -999}, {0, 999}, {999, 999}, {0, 0}, {-1, 0}, {998, 999}, {-999, -998}, {-999, 999}};
        DeepHole x = rod(2, 10);
        for (int[] w : wrong) {
            Check.refused(x, "wall " + w[0] + ", " + w[1], x.wall(0, w[0], w[1]) ? 1 : 0, 0, 2);
        }
        Check.due("none is told", x.clear(), 0);
        for (int[] r : right) {
            tell(x, 0, r[0], r[1]);
            lies(x, 0, 0, r[0], r[1]);
        }
        Check.refused(x, "a wrong one behind a right one", x.wall(0, 3, 2) ? 1 : 0, 0, 2);
        lies(x, 0, 0, -999, 999);
    }

    /** "how many INCHES had some". */
    private static void clears() {
        Check.due("clear() without a SHOP", new DeepHole().clear(), 0);
        DeepHole x = rod(30, 999);
        Check.due("clear() of none", x.clear(), 0);
        tell(x, 29, 0, 0);
        tell(x, 29, 0, 1);
        Check.due("an INCH told twice", x.clear(), 1);
        Check.due("clear() again", x.clear(), 0);
        for (int i = 0; i < 30; i++) {
            tell(x, i, -1, 1);
        }
        Check.due("all INCHES", x.clear(), 30);
        lies(x, 0, 0, -999, 999);
    }

    /** "Unmeasured: -wall .. wall". */
    private static void unmeasured() {
        for (int wall : new int[] {10, 11, 998, 999}) {
            for (int inches : new int[] {2, 3, 30}) {
                DeepHole x = rod(inches, wall);
                for (int k : new int[] {0, 1, 99}) {
                    lies(x, 0, k, -wall, wall);
                    lies(x, 1, k, -wall, wall);
                    lies(x, inches - 1, k, -wall, wall);
                    Check.granted(x, "next(" + k + ")", x.next(k), 0);
                }
            }
        }
        // what is measured may be wider than the wall, as far as the others let it
        DeepHole middle = rod(3, 10);
        tell(middle, 1, -999, 999);
        lies(middle, 1, 0, -10, 10);
        lies(middle, 1, 1, -10, 10);
        lies(middle, 1, 2, -11, 11);
        lies(middle, 1, 99, -59, 59);
        DeepHole outer = rod(3, 10);
        tell(outer, 0, -999, 999);
        lies(outer, 0, 0, -30, 30);
        lies(outer, 0, 1, -31, 31);
        lies(outer, 0, 99, -129, 129);
        DeepHole last = rod(3, 10);
        tell(last, 2, -999, 999);
        lies(last, 2, 0, -30, 30);
        lies(last, 2, 99, -129, 129);
    }

    /** "by steps that differ by k at most (0 .. 99)". */
    private static void steps() {
        DeepHole x = rod(3, 999);
        for (int k : new int[] {LEAST, -1, 100, MOST}) {
            Check.refused(x, "lies by " + k, x.lies(0, k, true), Check.NOWHERE, 2);
            Check.refused(x, "next by " + k, x.next(k), 2);
        }
        tell(x, 0, 0, 0);
        tell(x, 1, 10, 10);
        for (int k : new int[] {0, 1, 50, 98, 99, 0, 99}) {
            lies(x, 2, k, 20 - k, 20 + k);
            Check.granted(x, "next(" + k + ")", x.next(k), k == 0 ? 0 : 2);
        }
    }

    /** "twice the middle one's x is no less than the least ones of both others together less k". */
    private static void middleLeast() {
        int[] due = {4, 3, 3, 2, 2};
        for (int k = 0; k < due.length; k++) {
            DeepHole x = rod(3, 999);
            tell(x, 0, 3, 999);
            tell(x, 2, 4, 999);
            lies(x, 1, k, due[k], 999);
            DeepHole below = rod(3, 999);
            tell(below, 0, -8, 999);
            tell(below, 2, -9, 999);
            // half of -17 less k, upwards
            lies(below, 1, k, new int[] {-8, -9, -9, -10, -10}[k], 999);
        }
    }

    /** "no more than their greatest ones together and k". */
    private static void middleGreatest() {
        int[] due = {-4, -3, -3, -2, -2};
        for (int k = 0; k < due.length; k++) {
            DeepHole x = rod(3, 999);
            tell(x, 0, -999, -3);
            tell(x, 2, -999, -4);
            lies(x, 1, k, -999, due[k]);
            DeepHole above = rod(3, 999);
            tell(above, 0, -999, 8);
            tell(above, 2, -999, 9);
            lies(above, 1, k, -999, new int[] {8, 9, 9, 10, 10}[k]);
        }
    }

    /** "an outer one's x is no less than twice the middle one's least less the other's greatest less k, ..". */
    private static void outerOnes() {
        for (int k : new int[] {0, 1, 2, 99}) {
            DeepHole x = rod(3, 999);
            tell(x, 1, 10, 12);
            tell(x, 2, 3, 5);
            lies(x, 0, k, 15 - k, 21 + k);
            lies(x, 1, k, 10, 12);
            lies(x, 2, k, 3, 5);
            DeepHole y = rod(3, 999);
            tell(y, 1, -12, -10);
            tell(y, 0, -5, -3);
            lies(y, 2, k, -21 - k, -15 + k);
            lies(y, 1, k, -12, -10);
            lies(y, 0, k, -5, -3);
        }
    }

    /** "6 (some span is empty)": one step before it is, and one behind. */
    private static void justPossible() {
        for (int away : new int[] {1, 2, 20, 49, -1, -2, -20, -49}) {
            int need = 2 * Math.abs(away);
            DeepHole x = rod(3, 999);
            tell(x, 0, 0, 0);
            tell(x, 1, away, away);
            tell(x, 2, 0, 0);
            for (int k : new int[] {0, need - 1}) {
                for (int i = 0; i < 3; i++) {
                    empty(x, i, k);
                }
            }
            for (int k : new int[] {need, need + 1}) {
                lies(x, 0, k, 0, 0);
                lies(x, 1, k, away, away);
                lies(x, 2, k, 0, 0);
                Check.granted(x, "next(" + k + ")", x.next(k), 0);
            }
        }
        DeepHole half = rod(3, 999);
        tell(half, 0, 0, 0);
        tell(half, 2, 1, 1);
        empty(half, 1, 0);
        lies(half, 1, 1, 0, 1);
        // beyond -wall .. wall nothing unmeasured can lie
        DeepHole wall = rod(3, 20);
        tell(wall, 0, 0, 0);
        tell(wall, 1, 10, 10);
        lies(wall, 2, 0, 20, 20);
        tell(wall, 1, 11, 11);
        empty(wall, 2, 1);
        lies(wall, 2, 2, 20, 20);
    }

    /** "of three INCHES one behind the other": in a rod of two there are none. */
    private static void tooFewForThree() {
        DeepHole x = rod(2, 999);
        tell(x, 0, -999, -999);
        tell(x, 1, 999, 999);
        lies(x, 0, 0, -999, -999);
        lies(x, 1, 0, 999, 999);
        DeepHole three = rod(3, 999);
        tell(three, 0, -999, -999);
        tell(three, 1, 999, 999);
        empty(three, 0, 99);
    }

    /** "from which nothing more can be left out": what one INCH loses, others lose by it, both ways. */
    private static void onAndOn() {
        for (int inches : new int[] {4, 5, 10, 30}) {
            DeepHole x = rod(inches, 999);
            tell(x, 0, 0, 0);
            tell(x, 1, 3, 3);
            DeepHole y = rod(inches, 999);
            tell(y, inches - 1, 0, 0);
            tell(y, inches - 2, -3, -3);
            DeepHole ends = rod(inches, 999);
            tell(ends, 0, -5, -5);
            tell(ends, inches - 1, -5 + 7 * (inches - 1), -5 + 7 * (inches - 1));
            for (int i = 0; i < inches; i++) {
                lies(x, i, 0, 3 * i, 3 * i);
                lies(y, i, 0, -3 * (inches - 1 - i), -3 * (inches - 1 - i));
                lies(ends, i, 0, -5 + 7 * i, -5 + 7 * i);
            }
        }
        DeepHole wide = rod(6, 999);
        tell(wide, 0, 0, 0);
        tell(wide, 1, 0, 0);
        // by spans: twice the greatest of the one ahead, less the least of that ahead of it, and 1
        int[] far = {0, 0, 1, 3, 8, 20};
        for (int i = 0; i < 6; i++) {
            lies(wide, i, 1, -far[i], far[i]);
        }
        Check.granted(wide, "next", wide.next(1), 5);
    }

    /** Greatest ones alone are left out: from both ends inwards. */
    private static void highsAlone() {
        for (int inches : new int[] {4, 5, 30}) {
            DeepHole x = rod(inches, 999);
            tell(x, 0, -999, 0);
            tell(x, inches - 1, -999, 0);
            for (int i = 0; i < inches; i++) {
                lies(x, i, 0, -999, 0);
            }
        }
    }

    private static void lowsAlone() {
        for (int inches : new int[] {4, 5, 30}) {
            DeepHole x = rod(inches, 999);
            tell(x, 0, 0, 999);
            tell(x, inches - 1, 0, 999);
            for (int i = 0; i < inches; i++) {
                lies(x, i, 0, 0, 999);
            }
        }
    }

    /** What is told of an INCH again stands instead; what was left out by it before comes back. */
    private static void toldAnew() {
        DeepHole x = rod(3, 999);
        tell(x, 0, 0, 0);
        tell(x, 2, 10, 10);
        lies(x, 1, 0, 5, 5);
        tell(x, 2, 20, 20);
        lies(x, 1, 0, 10, 10);
        lies(x, 1, 4, 8, 12);
        lies(x, 1, 0, 10, 10);
        tell(x, 2, -999, 999);
        lies(x, 1, 0, -499, 499);
        Check.due("two INCHES", x.clear(), 2);
        lies(x, 1, 0, -999, 999);
        tell(x, 0, 0, 0);
        tell(x, 1, 999, 999);
        empty(x, 2, 0);
        tell(x, 1, 1, 1);
        lies(x, 2, 0, 2, 2);
    }

    private static void newShop() {
        DeepHole x = rod(3, 999);
        tell(x, 0, 0, 0);
        tell(x, 1, 999, 999);
        empty(x, 2, 7);
        Check.told(x, new Workshop().rod(4, 30, 0).text());
        lies(x, 0, 7, -30, 30);
        lies(x, 3, 7, -30, 30);
        Check.due("no WALLS", x.clear(), 0);
        tell(x, 0, 1, 2);
        Check.refused(x, "a wrong text", Check.told(x, "lip"), 4);
        lies(x, 0, 7, 1, 2);
        x.rod(true);
        x.drill(4);
        lies(x, 0, 7, 1, 2);
        Check.due("the WALL stays", x.clear(), 1);
    }

    /** "the INCH with the widest span, the first such". */
    private static void nexts() {
        DeepHole x = rod(4, 999);
        int[][] spans = {{0, 4}, {0, 5}, {0, 5}, {0, 5}};
        for (int i = 0; i < 4; i++) {
            tell(x, i, spans[i][0], spans[i][1]);
        }
        Check.granted(x, "the first of the widest", x.next(99), 1);
        tell(x, 3, 0, 6);
        Check.granted(x, "the last", x.next(99), 3);
        tell(x, 0, -3, 3);
        Check.granted(x, "as wide, the first of all", x.next(99), 0);
        tell(x, 2, -4, 3);
        Check.granted(x, "wider by 1", x.next(99), 2);
        DeepHole two = rod(2, 10);
        Check.granted(two, "two alike", two.next(0), 0);
        tell(two, 0, -10, 9);
        Check.granted(two, "the other is wider", two.next(0), 1);
        DeepHole thirty = rod(30, 999);
        for (int i = 0; i < 29; i++) {
            tell(thirty, i, 0, 0);
        }
        Check.granted(thirty, "INCH 29", thirty.next(1), 29);
        Check.granted(thirty, "none is wider", thirty.next(0), 0);
    }
}
