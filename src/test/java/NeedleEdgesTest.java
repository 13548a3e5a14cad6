/** FELT and CAUSES of Terms III and promises 16 to 20, edge by edge. */
public final class NeedleEdgesTest {
    private static final int LEAST = Integer.MIN_VALUE;
    private static final int MOST = Integer.MAX_VALUE;

    public static void main(String[] args) {
        feltInches();
        feltForces();
        feltRoom();
        forgets();
        allInOrder();
        wears();
        chips();
        harder();
        harderSide();
        harderWears();
        brokenAt();
        outAt();
        everyForce();
        drawnAndSharpened();
        fromTheFront();
        askedAtOnce();
        sures();
        Check.end("NeedleEdgesTest");
    }

    private static Workshop ten(int inches) {
        return new Workshop().rod(inches, 999, 0).way("a", 0, 0, 10);
    }

    private static void causes(String what, DeepHole x, int due, int... felt) {
        x.forget();
        for (int i = 0; i < felt.length; i += 2) {
            Check.granted(x, what + ": felt", x.felt(felt[i], felt[i + 1]), i / 2 + 1);
        }
        Check.granted(x, what, x.causes(), due);
    }

    /** "at an INCH (0 .. 29)"; "1 (no SHOP, INCH of the rod)". */
    private static void feltInches() {
        for (int inches : new int[] {2, 3, 29, 30}) {
            DeepHole x = ten(inches).shop();
            for (int i : new int[] {LEAST, -1, inches, inches + 1, 30, MOST}) {
                Check.refused(x, "felt(" + i + ") of " + inches, x.felt(i, 5), 1);
            }
            Check.granted(x, "felt(0)", x.felt(0, 5), 1);
            Check.granted(x, "felt(" + (inches - 1) + ")", x.felt(inches - 1, 5), 2);
            Check.due("FELT", x.state(4), 2);
        }
    }

    /** "2 (0 .. 9,999)". */
    private static void feltForces() {
        DeepHole x = ten(3).shop();
        for (int force : new int[] {LEAST, -1, 10000, MOST}) {
            Check.refused(x, "felt " + force, x.felt(0, force), 2);
        }
        Check.granted(x, "felt 0", x.felt(0, 0), 1);
        Check.granted(x, "felt 1", x.felt(0, 1), 2);
        Check.granted(x, "felt 9998", x.felt(0, 9998), 3);
        Check.granted(x, "felt 9999", x.felt(0, 9999), 4);
    }

    /** "3 (12 are)". */
    private static void feltRoom() {
        DeepHole x = ten(3).shop();
        for (int i = 1; i <= 12; i++) {
            Check.granted(x, "felt", x.felt(i % 2, 10 + i % 2), i);
        }
        Check.refused(x, "the 13th", x.felt(2, 12), 3);
        Check.due("12 are", x.state(4), 12);
        Check.granted(x, "the 13th didn't count", x.causes(), 4);
        Check.due("forget()", x.forget(), 12);
        Check.granted(x, "room again", x.felt(2, 12), 1);
        // the 12th counts as all do
        x.forget();
        for (int i = 1; i <= 11; i++) {
            x.felt(0, 10);
        }
        Check.granted(x, "by 11", x.causes(), 6);
        Check.granted(x, "the 12th", x.felt(2, 15), 12);
        Check.granted(x, "by the 12th", x.causes(), 2);
        Check.granted(x, "INCH 2 by the 12th", x.sure(2), 2);
    }

    /** "Nothing FELT any more: how many there were." */
    private static void forgets() {
        DeepHole none = new DeepHole();
        Check.due("forget() without a SHOP", none.forget(), 0);
        DeepHole x = ten(3).shop();
        Check.due("forget() of nothing", x.forget(), 0);
        x.felt(0, 99);
        Check.due("forget() of one", x.forget(), 1);
        Check.due("forget() again", x.forget(), 0);
        Check.due("FELT", x.state(4), 0);
        Check.granted(x, "causes() of nothing FELT", x.causes(), 8 * 4);
        x.felt(0, 99);
        Check.told(x, ten(3).text());
        Check.due("nothing FELT in a new SHOP", x.forget(), 0);
    }

    /** "WEAR 0, 10, 20 or 30 .., CHIPS 0 or 9, one INCH (or none)"; "by WEARS, CHIPS, then none, then INCHES". */
    private static void allInOrder() {
        for (int inches : new int[] {2, 5, 30}) {
            DeepHole x = ten(inches).shop();
            int many = 8 * (inches + 1);
            Check.granted(x, "causes() of " + inches, x.causes(), many);
            int[] asked = {0, 1, inches, inches + 1, 2 * inches + 1, 2 * inches + 2, many - inches - 1, many - 2, many - 1};
            for (int i : asked) {
                int at = i % (inches + 1);
                Check.granted(x, "WEAR of " + i, x.cause(i, 0), 10 * (i / (2 * (inches + 1))));
                Check.granted(x, "CHIPS of " + i, x.cause(i, 1), 9 * (i / (inches + 1) % 2));
                Check.granted(x, "INCH of " + i, x.cause(i, 2), at == 0 ? -2 : at - 1);
            }
            for (int i : new int[] {LEAST, -1, many, many + 1, MOST}) {
                Check.refused(x, "cause(" + i + ")", x.cause(i, 2), 1);
            }
            for (int what : new int[] {LEAST, -1, 3, 4, MOST}) {
                Check.refused(x, "cause(0, " + what + ")", x.cause(0, what), 1);
                Check.refused(x, "sure(" + what + ")", x.sure(what), 1);
            }
        }
    }

    /** FORCE 10 and the WEAR of the beginning: nothing between the four, nothing beyond them. */
    private static void wears() {
        DeepHole x = ten(3).shop();
        for (int force = 0; force <= 55; force++) {
            int wear = force - 10;
            boolean isWear = wear >= 0 && wear <= 30 && wear % 10 == 0;
            boolean isHarder = wear >= 3 && wear <= 33 && wear % 10 == 3;
            causes("FORCE " + force, x, isWear ? 6 : isHarder ? 2 : 0, 0, force);
            if (isWear || isHarder) {
                Check.granted(x, "WEAR by " + force, x.sure(0), wear / 10 * 10);
            }
        }
    }

    /** CHIPS of the beginning are 0 or 9: by the room that is left. */
    private static void chips() {
        int[] room = {0, 7, 8, 9, 10};
        int[] more = {18, 4, 2, 0, 0};
        for (int i = 0; i < room.length; i++) {
            DeepHole x = ten(2).lip(99, 50, room[i], 999).shop();
            causes("room " + room[i], x, more[i] == 0 ? 4 : 2, 0, 10 + more[i]);
            Check.granted(x, "CHIPS with room " + room[i], x.sure(1), more[i] == 0 ? -3 : 9);
            causes("room " + room[i] + ", no CHIPS", x, more[i] == 0 ? 4 : 2, 0, 10);
        }
    }

    /** "one INCH (or none) harder by 3": 3 where none is told, 12 where 9 is. */
    private static void harder() {
        int[][] due = {{0, 10, 13}, {1, 11, 14}, {9, 19, 22}};
        for (int[] d : due) {
            Workshop w = ten(2);
            DeepHole x = (d[0] == 0 ? w : w.hard(0, d[0], "up")).shop();
            causes("not harder than " + d[0], x, 4, 0, d[1]);
            causes("harder than " + d[0], x, 2, 0, d[2]);
            Check.granted(x, "INCH", x.sure(2), 0);
            causes("harder by 2 than " + d[0], x, 0, 0, d[2] - 1);
            causes("harder by 4 than " + d[0], x, 0, 0, d[2] + 1);
        }
        DeepHole x = ten(30).shop();
        causes("the last INCH", x, 2, 29, 10 + 29 + 3);
        Check.granted(x, "INCH 29", x.sure(2), 29);
    }

    /** A harder INCH leads towards its own side: 25 up is OUT of 25, and INCH 1 isn't reached then. */
    private static void harderSide() {
        for (int wall = 25; wall <= 26; wall++) {
            DeepHole up = new Workshop().rod(2, wall, 0).way("a", 50, 0, 10).hard(0, 1, "up").shop();
            causes("25 up, wall " + wall, up, wall == 25 ? 2 : 4, 1, 11);
        }
        for (int wall = 20; wall <= 21; wall++) {
            DeepHole right = new Workshop().rod(2, wall, 0).way("a", 50, 0, 10).shop();
            causes("20 to the right, wall " + wall, right, wall == 20 ? 2 : 4, 1, 11);
        }
    }

    /** A harder INCH wears more: 5 instead of 2. */
    private static void harderWears() {
        DeepHole x = ten(3).lip(10, 50, 99, 999).shop();
        causes("INCH 1 by 15", x, 4, 1, 15);
        Check.granted(x, "the first", x.cause(0, 2), 0);
        Check.granted(x, "the second", x.cause(1, 2), 1);
        causes("INCH 2 by 17", x, 6, 2, 17);
        Check.granted(x, "the third", x.cause(2, 2), 2);
        causes("INCH 1 by 15, INCH 2 by 17", x, 4, 1, 15, 2, 17);
        causes("INCH 0 by 10, INCH 1 by 15", x, 2, 0, 10, 1, 15);
    }

    /** "(also that by which it is BROKEN; an INCH that isn't reached: no)". */
    private static void brokenAt() {
        for (int bears = 12; bears <= 13; bears++) {
            DeepHole x = ten(3).lip(99, 50, 99, bears).shop();
            causes("13 at INCH 0, bears " + bears, x, 2, 0, 13);
            causes("11 behind it, bears " + bears, x, bears == 12 ? 0 : 2, 0, 13, 1, 11);
            Check.refused(x, "sure, bears " + bears, x.sure(2), bears == 12 ? DeepHole.NONE : 0, bears == 12 ? 6 : 0);
        }
        // BROKEN at INCH 2 by 12
        DeepHole x = ten(5).lip(99, 50, 99, 11).shop();
        causes("12 at INCH 2", x, 6, 2, 12);
        causes("13 at INCH 3", x, 0, 3, 13);
        causes("12 at INCH 2, 13 at INCH 3", x, 0, 2, 12, 3, 13);
        causes("12 at INCH 2, 0 at INCH 4", x, 0, 2, 12, 4, 0);
    }

    /** An INCH at which it is OUT is reached, the one behind it isn't. */
    private static void outAt() {
        // x 9, 27, 54
        DeepHole narrow = new Workshop().rod(3, 10, 0).way("a", 99, 0, 10).shop();
        causes("OUT at INCH 1", narrow, 4, 1, 11);
        causes("behind OUT", narrow, 0, 2, 12);
        DeepHole wider = new Workshop().rod(3, 28, 0).way("a", 99, 0, 10).shop();
        causes("OUT at INCH 2", wider, 2, 2, 12);
        DeepHole edge = new Workshop().rod(3, 27, 0).way("a", 99, 0, 10).shop();
        causes("OUT at INCH 1 by as much as the wall", edge, 0, 2, 12);
    }

    /** "every FORCE felt comes": of one INCH, too. */
    private static void everyForce() {
        DeepHole x = ten(3).shop();
        causes("one", x, 6, 0, 10);
        causes("the same again", x, 6, 0, 10, 0, 10);
        causes("two of one INCH that differ", x, 0, 0, 10, 0, 13);
        causes("the other way round", x, 0, 0, 13, 0, 10);
        causes("none of the first", x, 0, 0, 11, 1, 11, 2, 12);
        causes("none of the last", x, 0, 0, 10, 1, 11, 2, 13);
        causes("all", x, 2, 0, 10, 1, 11, 2, 12);
    }

    /** At INCH 0 a sharpening takes the WEAR of the beginning, a draw its CHIPS. */
    private static void drawnAndSharpened() {
        DeepHole sharp = ten(2).lip(99, 50, 0, 999).from(0, 1, "a sharpen").shop();
        causes("sharpened", sharp, 4 * 2, 0, 10);
        Check.granted(sharp, "any WEAR", sharp.sure(0), -3);
        Check.granted(sharp, "no CHIPS", sharp.sure(1), 0);
        DeepHole drawn = ten(2).lip(99, 50, 0, 999).from(0, 1, "a draw").shop();
        causes("drawn", drawn, 2 * 2, 0, 10);
        Check.granted(drawn, "no WEAR", drawn.sure(0), 0);
        Check.granted(drawn, "any CHIPS", drawn.sure(1), -3);
    }

    private static void fromTheFront() {
        DeepHole x = ten(3).hard(0, 9, "up").shop();
        x.rod(true);
        x.drill(3);
        causes("from the front, though it lies BACKWARD", x, 6, 0, 19);
        causes("from BACKWARD", x, 0, 2, 19 + 2);
    }

    /** cause() and sure() of what is FELT now, whether causes() was asked or not. */
    private static void askedAtOnce() {
        DeepHole x = ten(3).shop();
        Check.granted(x, "cause() at once", x.cause(31, 2), 2);
        x.felt(0, 43);
        Check.granted(x, "cause() behind felt()", x.cause(0, 0), 30);
        Check.refused(x, "no third cause", x.cause(2, 0), 1);
        x.forget();
        Check.granted(x, "cause() behind forget()", x.cause(0, 0), 0);
        x.felt(0, 30);
        Check.granted(x, "sure() behind felt()", x.sure(0), 20);
        Check.told(x, ten(2).text());
        Check.granted(x, "sure() behind shop()", x.sure(0), -3);
        Check.granted(x, "cause() behind shop()", x.cause(23, 2), 1);
        Check.refused(x, "cause(24)", x.cause(24, 2), 1);
        Check.told(x, ten(4).text());
        Check.granted(x, "cause() behind shop()", x.cause(39, 2), 3);
    }

    /** "What all CAUSES have alike there; -3 if they haven't"; "6 (no CAUSES)". */
    private static void sures() {
        DeepHole x = ten(2).lip(99, 50, 0, 999).shop();
        causes("one alone", x, 1, 0, 10, 1, 11);
        Check.granted(x, "WEAR", x.sure(0), 0);
        Check.granted(x, "CHIPS", x.sure(1), 0);
        Check.granted(x, "no INCH", x.sure(2), -2);
        causes("two", x, 2, 0, 10);
        Check.granted(x, "WEAR of two", x.sure(0), 0);
        Check.granted(x, "INCHES that differ", x.sure(2), -3);
        causes("the last alone", x, 1, 0, 58, 1, 10 + 31 + 18 + 3);
        Check.granted(x, "WEAR", x.sure(0), 30);
        Check.granted(x, "CHIPS", x.sure(1), 9);
        Check.granted(x, "INCH 1", x.sure(2), 1);
        causes("none", x, 0, 0, 9999);
        for (int what = 0; what < 3; what++) {
            Check.refused(x, "sure(" + what + ") of none", x.sure(what), 6);
            Check.refused(x, "cause(0, " + what + ") of none", x.cause(0, what), 1);
        }
    }
}
