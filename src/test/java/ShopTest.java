/** Promises 1 to 5: a new object, feed, shop, fault, where. */
public final class ShopTest {
    private static final String LAST = "from 0 feed 1 way d";
    private static final String WHOLE = Check.ROD + Check.LIP + Check.COSTS + Check.WAY + LAST;

    public static void main(String[] args) {
        newObject();
        feeds();
        shops();
        blanksAndJoins();
        form();
        names();
        again();
        bounds();
        many();
        lacks();
        faultAndWhere();
        anew();
        Check.end("ShopTest");
    }

    private static void newObject() {
        DeepHole x = new DeepHole();
        for (int what = 0; what <= 10; what++) {
            Check.due("new: state(" + what + ")", x.state(what), 0);
        }
        Check.due("new: state(11)", x.state(11), DeepHole.NONE);
        Check.due("new: state(-1)", x.state(-1), DeepHole.NONE);
        Check.due("new: fault()", x.fault(), 0);
        Check.due("new: where()", x.where(), DeepHole.NONE);
        Check.due("new: trouble()", x.trouble(), 0);
        Check.due("new: feedAt(0)", x.feedAt(0), DeepHole.NONE);
        Check.due("new: stroke(0)", x.stroke(0), DeepHole.NONE);
        Check.due("new: forget()", x.forget(), 0);
        Check.due("new: clear()", x.clear(), 0);
        Check.due("new: led(0)", Check.ledOf(x, 0), -5);
        Check.due("NONE", DeepHole.NONE, -1);
        Check.refused(x, "new: rod", x.rod(false) ? 1 : 0, 0, 1);
        Check.refused(x, "new: drill(0)", x.drill(0), 1);
        Check.refused(x, "new: inch", x.inch(0, 0), Check.NOWHERE, 1);
        Check.refused(x, "new: odds", x.odds(0, -1), 1);
        Check.refused(x, "new: rows", x.rows(0), 1);
        Check.refused(x, "new: cheapest", x.cheapest(0, -1), 1);
        Check.refused(x, "new: met", x.met(0), 1);
        Check.refused(x, "new: meet", x.meet(), 1);
        Check.refused(x, "new: felt", x.felt(0, -1), 1);
        Check.refused(x, "new: causes", x.causes(), 1);
        Check.refused(x, "new: cause", x.cause(0, 0), 1);
        Check.refused(x, "new: sure", x.sure(0), 1);
        Check.refused(x, "new: off", x.off(0, true), Check.NOWHERE, 1);
        Check.refused(x, "new: ring", x.ring(0), 1);
        Check.refused(x, "new: sees", x.sees(0), 1);
        Check.refused(x, "new: blow", x.blow(1, 0, 1), 1);
        Check.refused(x, "new: fewest", x.fewest(0, 0), 1);
        Check.refused(x, "new: heat", x.heat(), 1);
        Check.refused(x, "new: about", x.about(), 1);
        Check.refused(x, "new: wall", x.wall(0, 5, 4) ? 1 : 0, 0, 1);
        Check.refused(x, "new: lies", x.lies(0, -1, true), Check.NOWHERE, 1);
        Check.refused(x, "new: next", x.next(-1), 1);
    }

    private static void feeds() {
        DeepHole x = new DeepHole();
        for (int i = 1; i <= 35; i++) {
            Check.due("feed", x.feed(0x20202020, 0x20202020, 0x20202020, 0x20202020, 0x20202020), 20 * i);
        }
        Check.due("feed beyond 700", x.feed(1, 2, 3, 4, 5), DeepHole.NONE);
        Check.due("feed is not a call that may be refused", x.trouble(), 0);
        Check.due("state(5)", x.state(5), 700);
        Check.refused(x, "shop(701)", x.shop(701), 2);
        Check.due("state(5) behind a wrong number", x.state(5), 700);
        Check.refused(x, "shop(700) of blanks", x.shop(700), 4);
        Check.due("fault()", x.fault(), 1);
        Check.due("where()", x.where(), 700);
        Check.due("state(5)", x.state(5), 0);
        Check.due("feed of an empty tape", x.feed(-1, 0, 0, 0, 0), 20);
        Check.refused(x, "shop of byte 255", x.shop(20), 4);
        Check.due("where()", x.where(), 0);
        // "rod ", "inch", "es 0": the highest byte of each number comes first
        x.feed(0x726F6420, 0x696E6368, 0x65732030, 0, 0);
        x.shop(12);
        Check.due("fault of the byte order", x.fault(), 4);
        Check.due("where of the byte order", x.where(), 11);
        String full = WHOLE + " ".repeat(700 - WHOLE.length());
        Check.due("700 bytes", Check.told(x, full), 1);
    }

    private static void shops() {
        DeepHole x = new DeepHole();
        Check.granted(x, "shop", Check.told(x, WHOLE), 1);
        Check.due("state(6)", x.state(6), 4);
        Check.due("state(7)", x.state(7), 100);
        Check.due("state(8)", x.state(8), 1);
        Check.due("state(9)", x.state(9), 0);
        Check.feedText(x, WHOLE + ";,");
        Check.refused(x, "shop(-1)", x.shop(-1), 2);
        Check.refused(x, "shop(too many)", x.shop(x.state(5) + 1), 2);
        Check.refused(x, "shop(least)", x.shop(Integer.MIN_VALUE), 2);
        Check.refused(x, "shop(most)", x.shop(Integer.MAX_VALUE), 2);
        Check.granted(x, "shop of the first bytes", x.shop(WHOLE.length()), 1);
        Check.due("the rest is gone", x.state(5), 0);
        Check.refused(x, "shop(1) of nothing", x.shop(1), 2);
        String ways = "way b push 0 hold 0 force 1;way c push 0 hold 0 force 1;way e push 0 hold 0 force 1;";
        String seers = ";seer r sees 1;seer s sees 2;seer t sees 3;seer u sees 99";
        Check.granted(x, "four ways", Check.told(x, ways + WHOLE + seers), 4);
        Check.due("state(8) of four", x.state(8), 4);
        Check.due("state(9) of four", x.state(9), 4);
    }

    private static void blanksAndJoins() {
        ok(WHOLE.replace(" ", "   "));
        ok("  " + WHOLE.replace(";", " ; ") + "  ");
        ok("rod inches4wall100bush1;lip10oil2room5bears300;costs inch12lip7draw5;"
            + "way d push10hold0force10;from0feed1way d draw sharpen");
        ok(WHOLE.replace("inches 4", "inches 004"));
        ok(WHOLE.replace("way d", "way abcdefgh"));
        // every WORD is a NAME but the nine
        ok(WHOLE.replace("way d", "way az"));
        ok(WHOLE.replace("way d", "way push"));
        ok(WHOLE.replace("way d", "way inches"));
        ok(WHOLE.replace("way d", "way right"));
        ok(WHOLE + ";seer sees sees 1;seer by sees 2");
        ok(WHOLE + " draw");
        ok(WHOLE + " sharpen");
        ok(Check.WAY + LAST + ";" + Check.COSTS + Check.LIP + Check.ROD.substring(0, Check.ROD.length() - 1));
        ok(WHOLE + ";hard 29 by 9 down;hard 29 by 1 left;hard 0 by 5 right");
    }

    private static void form() {
        fault(1, "@");
        fault(1, "   @");
        fault(1, "@,");
        fault(1, "@;");
        fault(1, "@5");
        fault(1, "@Rod inches 4");
        fault(1, "@\t");
        fault(1, "@" + (char) 200);
        fault(1, "@" + (char) 0);
        fault(1, "@rods inches 4");
        fault(1, "rod@");
        fault(1, "rod  @");
        fault(1, "rod@;");
        fault(1, "rod @inch 4");
        fault(1, "rod inches @wall");
        fault(1, "rod inches @-4");
        fault(1, "rod inches @1000 wall");
        fault(1, "rod inches 4@, wall");
        fault(1, "rod inches 4 4".replace(" 4 4", " 4 @4"));
        fault(1, "rod inches 4 wall 10@");
        fault(1, "rod inches 4 wall 10 bush 0;@");
        fault(1, "rod inches 4 wall 10 bush 0;  @");
        fault(1, "rod inches 4 wall 10 bush 0 @rod");
        fault(1, "rod inches 4 wall 10 bush 0@.");
        fault(1, "rod inches 4 wall 10 bush 0;@;");
        fault(1, "lip @oil 2");
        fault(1, "costs @lip 2");
        fault(1, "way @abcdefghi push 0");
        fault(1, "way @5 push 0");
        fault(1, "way@");
        for (String word : new String[] {
            "rod", "lip", "costs", "way", "hard", "from", "seer", "draw", "sharpen"}) {
            fault(1, "way @" + word + " push 0");
            fault(1, "seer @" + word + " sees 1");
            fault(1, "from 0 feed 1 way @" + word);
        }
        fault(1, "hard 0 by 1 @at");
        fault(1, "hard 0 by 1 @ups");
        fault(1, "hard 0 by 1 @5");
        fault(1, "hard 0 by 1@");
        fault(1, "hard 0 @up");
        fault(1, Check.WAY + "from 0 feed 1 way d sharpen @draw");
        fault(1, Check.WAY + "from 0 feed 1 way d draw @draw");
        fault(1, Check.WAY + "from 0 feed 1 way d sharpen @sharpen");
        fault(1, Check.WAY + "from 0 feed 1 @d");
        fault(1, "seer a @see 4");
        fault(1, "seer a sees 4 @draw");
        fault(1, WHOLE + "@,");
        fault(1, WHOLE + "@" + (char) 0);
        fault(1, "rod inches 4 @mall 10");
        fault(1, "rod inches 4 @walk 10");
        fault(1, "way @{ push 0");
        fault(1, "way @` push 0");
        fault(1, "rod inches @/ wall");
        fault(1, "rod inches @: wall");
        fault(1, WHOLE + ";@");
    }

    private static void names() {
        fault(2, "from 0 feed 1 way @a");
        fault(2, "seer a sees 1;from 0 feed 1 way @a");
        fault(2, Check.WAY + "from 0 feed 1 way @dd");
        fault(2, "way ab push 0 hold 0 force 1;from 0 feed 1 way @a,");
        fault(2, "from 0 feed 1 way @d;" + Check.WAY.substring(0, 5));
    }

    private static void again() {
        fault(3, Check.WAY + "way @d push");
        fault(3, Check.WAY + "seer @d sees 1");
        fault(3, "seer a sees 1;way @a push");
        fault(3, "seer a sees 1;seer @a,");
        fault(3, Check.ROD + "@rod,");
        fault(3, Check.LIP + "@lip");
        fault(3, Check.COSTS + Check.ROD + "@costs 7");
        // of one place the least number, of several places the first
        fault(3, "seer a sees 1;way @a push 100");
        fault(4, "seer a sees @0;way a");
    }

    /** Each number of each LINE at its bounds and one beyond them. */
    private static void bounds() {
        bound("rod inches ", 2, 30, " wall 100 bush 1;", Check.ROD);
        bound("rod inches 4 wall ", 10, 999, " bush 1;", Check.ROD);
        bound("rod inches 4 wall 100 bush ", 0, 9, ";", Check.ROD);
        bound("lip ", 1, 99, " oil 2 room 5 bears 300;", Check.LIP);
        bound("lip 10 oil ", 0, 50, " room 5 bears 300;", Check.LIP);
        bound("lip 10 oil 2 room ", 0, 99, " bears 300;", Check.LIP);
        bound("lip 10 oil 2 room 5 bears ", 10, 999, ";", Check.LIP);
        bound("costs inch ", 0, 99, " lip 7 draw 5;", Check.COSTS);
        bound("costs inch 12 lip ", 0, 99, " draw 5;", Check.COSTS);
        bound("costs inch 12 lip 7 draw ", 0, 99, ";", Check.COSTS);
        bound("way d push ", 0, 99, " hold 0 force 10;", Check.WAY);
        bound("way d push 10 hold ", 0, 100, " force 10;", Check.WAY);
        bound("way d push 10 hold 0 force ", 1, 50, ";", Check.WAY);
        bound(LAST + ";hard ", 0, 29, " by 1 up", LAST);
        bound(LAST + ";hard 0 by ", 1, 9, " up", LAST);
        bound(LAST + ";from ", 1, 29, " feed 1 way d", LAST);
        bound(LAST + ";from 7 feed 2 way d;from ", 8, 29, " feed 1 way d", LAST);
        bound("from 0 feed ", 1, 9, " way d", LAST);
        bound(LAST + ";seer a sees ", 1, 99, "", LAST);
        fault(4, Check.WAY + LAST + ";from 29 feed 1 way d;from @29");
        fault(4, Check.WAY + LAST + ";from 5 feed 1 way d;from @4");
        fault(4, "hard @30 by");
        fault(4, "from @30 feed");
    }

    private static void bound(String front, int low, int high, String back, String line) {
        for (int value : new int[] {low - 1, low, high, high + 1}) {
            if (value < 0) {
                continue;
            }
            boolean fits = value >= low && value <= high;
            String mark = fits ? "" : "@";
            String text = WHOLE.replace(line, front + mark + value + back);
            if (fits) {
                ok(text);
            } else {
                fault(value > 999 ? 1 : 4, text);
            }
        }
    }

    private static void many() {
        String ways = "";
        String seers = "";
        for (String name : new String[] {"a", "b", "c", "e"}) {
            ways += "way " + name + " push 0 hold 0 force 1;";
            seers += "seer s" + name + " sees 1;";
        }
        String hards = "hard 3 by 1 up;".repeat(10);
        String froms = "";
        for (int i = 0; i < 8; i++) {
            froms += "from " + i + " feed 1 way d;";
        }
        fault(5, ways + "@way");
        fault(5, ways + "@way a");
        fault(5, seers + "@seer sa");
        fault(5, hards + "@hard 30");
        fault(5, Check.WAY + froms + "@from 30");
        ok(ways + seers + hards + Check.ROD + Check.LIP + Check.COSTS + "from 0 feed 1 way e");
        ok(Check.ROD + Check.LIP + Check.COSTS + Check.WAY + froms.substring(0, froms.length() - 1));
    }

    private static void lacks() {
        fault(6, WHOLE.replace(Check.ROD, "") + "@");
        fault(6, WHOLE.replace(Check.LIP, "") + "@");
        fault(6, WHOLE.replace(Check.COSTS, "") + "@");
        fault(6, WHOLE.replace(";" + LAST, "") + "@");
        fault(6, WHOLE.replace("from 0", "from 1") + "@");
        fault(6, WHOLE.replace("from 0", "from 1") + ";from 2 feed 1 way d   @");
    }

    private static void faultAndWhere() {
        DeepHole x = Check.shop(Check.BASE);
        Check.due("drill", x.drill(2), 2);
        Check.refused(x, "a wrong text", Check.told(x, "rod inches 31"), 4);
        Check.due("the SHOP stays", x.state(6), 4);
        Check.due("its INCHES stay", x.state(0), 2);
        Check.due("fault()", x.fault(), 4);
        Check.due("where()", x.where(), 11);
        x.state(0);
        x.feed(0, 0, 0, 0, 0);
        x.forget();
        x.feedAt(0);
        x.stroke(0);
        Check.ledOf(x, 5);
        Check.due("where() behind calls that are never refused", x.where(), 11);
        Check.refused(x, "shop(99)", x.shop(99), 2);
        Check.due("where() behind a number", x.where(), DeepHole.NONE);
        Check.due("fault() behind a number", x.fault(), 4);
        Check.refused(x, "shop(20)", x.shop(20), 4);
        Check.due("where() again", x.where(), 0);
        x.drill(1);
        Check.due("where() behind another call", x.where(), DeepHole.NONE);
        Check.due("fault() behind another call", x.fault(), 1);
        Check.granted(x, "a right text", Check.told(x, Check.BASE), 1);
        Check.due("fault() without one", x.fault(), 0);
        Check.due("where() without one", x.where(), DeepHole.NONE);
    }

    /** A new SHOP: no INCH, nothing FELT, no BLOWS, no WALLS, no feeds and strokes found. */
    private static void anew() {
        DeepHole x = Check.shop(Check.BASE);
        x.rod(true);
        x.drill(4);
        x.felt(0, 20);
        x.blow(1, 1, 4);
        x.wall(0, 1, 1);
        x.cheapest(2, 9);
        x.fewest(8, 999);
        x.fewest(8, 1);
        Check.told(x, "way");
        Check.due("feedAt behind a wrong text", x.feedAt(0), 4);
        Check.due("a BLOW behind a wrong text", x.state(3), 1);
        Check.due("FELT behind a wrong text", x.state(4), 1);
        Check.told(x, Check.BASE);
        Check.due("INCHES", x.state(0), 0);
        Check.due("COST", x.state(1), 0);
        Check.due("BLOWS", x.state(3), 0);
        Check.due("FELT", x.state(4), 0);
        Check.due("lies", x.lies(0, 0, true), 100);
        Check.due("WALLS", x.clear(), 0);
        Check.due("feedAt", x.feedAt(0), DeepHole.NONE);
        Check.due("stroke", x.stroke(0), DeepHole.NONE);
        x.drill(4);
        Check.due("the rod lies as it is", Check.ledOf(x, 0), 2);
    }

    private static void ok(String text) {
        DeepHole x = new DeepHole();
        int ways = Check.told(x, text);
        Check.due("shop of " + text, ways >= 1, true);
        Check.due("fault of " + text + " at " + x.where(), x.fault(), 0);
        Check.due("trouble of " + text, x.trouble(), 0);
    }

    /** The @ stands where the fault is due. */
    private static void fault(int number, String marked) {
        String text = marked.replace("@", "");
        DeepHole x = new DeepHole();
        Check.refused(x, "shop of " + marked, Check.told(x, text), 4);
        Check.due("fault of " + marked, x.fault(), number);
        Check.due("where of " + marked, x.where(), marked.indexOf('@'));
    }
}
