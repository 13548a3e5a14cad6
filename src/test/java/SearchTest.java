/** Promises 10 to 15: odds, rows, cheapest, feedAt, met, meet. */
public final class SearchTest {
    private static final String STILL = "rod inches 9 wall 999 bush 0;lip 99 oil 50 room 0 bears 999;"
        + "costs inch 12 lip 0 draw 0;way a push 0 hold 0 force 1;from 0 feed 1 way a";

    public static void main(String[] args) {
        odds();
        oddsHeld();
        oddsStopped();
        cheapest();
        feedsKept();
        newRods();
        met();
        notMet();
        Check.end("SearchTest");
    }

    private static void odds() {
        DeepHole x = Check.shop(STILL);
        Check.refused(x, "odds(0)", x.odds(0, 0), 2);
        Check.refused(x, "odds(10)", x.odds(10, 0), 2);
        Check.refused(x, "odds near -1", x.odds(1, -1), 2);
        Check.refused(x, "odds near 1000", x.odds(1, 1000), 2);
        Check.refused(x, "rows(0)", x.rows(0), 2);
        Check.refused(x, "rows(10)", x.rows(10), 2);
        Check.granted(x, "rows(1)", x.rows(1), 4);
        Check.granted(x, "rows(9)", x.rows(9), 262144);
        Check.granted(x, "odds(9, 999)", x.odds(9, 999), 262144);
        Check.granted(x, "odds(1, 0)", x.odds(1, 0), 2);
        Check.granted(x, "odds(1, 1)", x.odds(1, 1), 4);
        // x is 2 s + t: 0 by (0, 0) alone, 1 by (0, 1), (1, -1) and their likes
        Check.granted(x, "odds(2, 0)", x.odds(2, 0), 4);
        Check.granted(x, "odds(2, 1)", x.odds(2, 1), 4 + 2 * 2 + 2 * 1);
        Check.granted(x, "odds(2, 2)", x.odds(2, 2), 10 + 2 * 2);
        Check.granted(x, "odds(2, 3)", x.odds(2, 3), 16);
        x.drill(3);
        Check.granted(x, "odds of a new rod", x.odds(1, 0), 2);
        DeepHole small = Check.shop(Check.BASE);
        Check.refused(small, "odds beyond the rod", small.odds(5, 0), 2);
        Check.refused(small, "rows beyond the rod", small.rows(5), 2);
        Check.granted(small, "rows in the bush", small.rows(1), 1);
        Check.granted(small, "rows behind the bush", small.rows(4), 64);
        Check.granted(small, "odds in the bush", small.odds(1, 0), 1);
        small.rod(true);
        Check.granted(small, "odds are from the front", small.odds(3, 5), 0);
        Check.granted(small, "y counts", small.odds(3, 6), 15);
        Check.granted(small, "y is 6, x at most 7", small.odds(3, 7), 16);
    }

    /** The scatter comes ahead of hold: half of 1 is 0. */
    private static void oddsHeld() {
        DeepHole x = Check.shop(STILL.replace("hold 0", "hold 50"));
        Check.due("held", x.odds(5, 0), 1024);
        DeepHole y = Check.shop(STILL.replace("hold 0", "hold 50").replace("push 0", "push 10"));
        // 1 and -1, 0 or 1, halved: 0, 0, 1
        Check.due("held with a push", y.odds(1, 0), 3);
        Check.due("held with a push, all", y.odds(1, 1), 4);
    }

    private static void oddsStopped() {
        DeepHole broken = Check.shop(STILL.replace("bears 999", "bears 10")
            .replace("from 0 feed 1 way a", "from 0 feed 1 way a;from 1 feed 9 way a;hard 1 by 9 up"));
        Check.due("ahead of breaking", broken.odds(1, 999), 4);
        Check.due("broken", broken.odds(2, 999), 0);
        Check.due("all rows, broken too", broken.rows(2), 16);
        // the wall is 10, and the push 9: x is 8, 9 or 10, of which 10 is OUT
        DeepHole out = Check.shop(STILL.replace("wall 999", "wall 10").replace("push 0", "push 90"));
        Check.due("out", out.odds(1, 999), 3);
        Check.due("out at the second", out.odds(2, 999), 0);
    }

    private static void cheapest() {
        DeepHole x = Check.shop(STILL);
        Check.refused(x, "cheapest(0)", x.cheapest(0, 0), 2);
        Check.refused(x, "cheapest(8)", x.cheapest(8, 0), 2);
        Check.refused(x, "cheapest near -1", x.cheapest(1, -1), 2);
        Check.refused(x, "cheapest near 1000", x.cheapest(1, 1000), 2);
        Check.granted(x, "cheapest(7)", x.cheapest(7, 0), 28);
        for (int i = 0; i < 7; i++) {
            Check.due("feedAt(" + i + ")", x.feedAt(i), 4);
        }
        Check.due("feedAt(7)", x.feedAt(7), DeepHole.NONE);
        Check.due("feedAt(-1)", x.feedAt(-1), DeepHole.NONE);
        DeepHole small = Check.shop(Check.BASE);
        Check.refused(small, "cheapest beyond the rod", small.cheapest(5, 9), 2);
        Check.refused(small, "cheapest of none", small.cheapest(2, 0), 6);
        // the plan's draw and sharpening at INCH 3 cost 12
        Check.granted(small, "cheapest of all", small.cheapest(4, 999), 28);
        // an INCH costs 1 by every FEED: all are alike, so the least FEEDS
        DeepHole alike = Check.shop(STILL.replace("inch 12", "inch 0"));
        Check.granted(alike, "cheapest of like ones", alike.cheapest(3, 5), 3);
        Check.due("the least FEED", alike.feedAt(0), 1);
        Check.due("the least FEED behind", alike.feedAt(2), 1);
        DeepHole five = Check.shop(STILL.replace("inch 12", "inch 5"));
        Check.granted(five, "5 by 3 and 4 are alike", five.cheapest(1, 5), 2);
        Check.due("3 is the least of these", five.feedAt(0), 3);
        // a FEED of 2 at most is borne: 12 by 2
        DeepHole weak = Check.shop(STILL.replace("bears 999", "bears 29").replace("force 1", "force 12"));
        Check.granted(weak, "as it bears", weak.cheapest(2, 5), 14);
        Check.due("borne", weak.feedAt(1), 2);
        DeepHole none = Check.shop(STILL.replace("bears 999", "bears 10").replace("force 1", "force 11"));
        Check.refused(none, "none is borne", none.cheapest(1, 999), 6);
        // a wall of 10 is reached by a FEED of 2 or more: push 50 by 10
        DeepHole thin = Check.shop(STILL.replace("wall 999", "wall 10").replace("push 0", "push 50"));
        Check.granted(thin, "not OUT", thin.cheapest(1, 999), 13);
        Check.refused(thin, "OUT", thin.cheapest(2, 999), 6);
    }

    private static void feedsKept() {
        DeepHole x = Check.shop(Check.BASE);
        Check.due("feedAt of none", x.feedAt(0), DeepHole.NONE);
        x.cheapest(2, 1);
        Check.due("feedAt(0)", x.feedAt(0), 4);
        Check.due("feedAt(1)", x.feedAt(1), 1);
        Check.due("feedAt sets no trouble", x.trouble(), 0);
        x.cheapest(2, 0);
        Check.due("feedAt(1) stays behind a refusal", x.feedAt(1), 1);
        Check.due("trouble stays", x.trouble(), 6);
        x.cheapest(9, 0);
        x.rod(true);
        x.drill(2);
        Check.due("feedAt(1) stays", x.feedAt(1), 1);
        x.cheapest(1, 5);
        Check.due("feedAt(1) of one", x.feedAt(1), DeepHole.NONE);
    }

    /** A new rod begins without WEAR and CHIPS: a little of either would break the drill sooner. */
    private static void newRods() {
        String text = "rod inches 4 wall 100 bush 0;lip 99 oil 2 room 2 bears 13;"
            + "costs inch 12 lip 0 draw 0;way a push 0 hold 0 force 10;from 0 feed 1 way a";
        // FORCES 10, 11, 14: CHIPS 1, 2, 3 of which 2 have room, WEAR 0, 1, 2
        DeepHole x = Check.shop(text);
        Check.due("odds of two", x.odds(2, 999), 16);
        Check.due("odds of three", x.odds(3, 999), 0);
        Check.due("cheapest of two", x.cheapest(2, 0), 26);
        Check.due("cheapest of three", x.cheapest(3, 0), DeepHole.NONE);
        Check.due("met in the middle", x.met(2), 0);
        Check.due("meet", x.meet(), 2);
        DeepHole y = Check.shop(text.replace("bears 13", "bears 11"));
        Check.due("odds of two", y.odds(2, 999), 16);
        Check.due("cheapest of two", y.cheapest(2, 0), 26);
        Check.due("met in the middle", y.met(2), 0);
        DeepHole z = Check.shop(text.replace("bears 13", "bears 10"));
        Check.due("odds of one", z.odds(1, 999), 4);
        Check.due("odds of two", z.odds(2, 999), 0);
        Check.due("cheapest of one", z.cheapest(1, 0), 13);
        Check.due("not met", z.met(2), DeepHole.NONE);
        DeepHole chips = Check.shop(text.replace("bears 13", "bears 11").replace("room 2", "room 1"));
        Check.due("CHIPS crowd", chips.odds(2, 999), 0);
        Check.due("CHIPS crowd", chips.cheapest(2, 0), DeepHole.NONE);
        Check.due("CHIPS crowd", chips.meet(), DeepHole.NONE);
        // 4 to the right and 6 to the left; 4 down and 6 up
        DeepHole apart = Check.shop("rod inches 2 wall 100 bush 0;lip 99 oil 50 room 2 bears 999;"
            + "costs inch 12 lip 0 draw 0;way a push 10 hold 0 force 1;hard 0 by 3 right;hard 1 by 5 left;"
            + "from 0 feed 1 way a");
        Check.due("apart to both sides", apart.met(1), 10);
        DeepHole above = Check.shop("rod inches 2 wall 100 bush 0;lip 99 oil 50 room 2 bears 999;"
            + "costs inch 12 lip 0 draw 0;way a push 10 hold 0 force 1;hard 0 by 3 down;hard 1 by 5 up;"
            + "from 0 feed 1 way a");
        Check.due("apart above and below", above.met(1), 10);
    }

    private static void met() {
        DeepHole x = Check.shop(Check.BASE);
        Check.refused(x, "met(0)", x.met(0), 2);
        Check.refused(x, "met(4)", x.met(4), 2);
        Check.granted(x, "met(1)", x.met(1), 14);
        Check.granted(x, "met(2)", x.met(2), 8);
        Check.granted(x, "met(3)", x.met(3), 10);
        Check.granted(x, "meet()", x.meet(), 2);
        x.rod(true);
        x.drill(3);
        x.blow(1, 1, 9);
        Check.granted(x, "met of new rods", x.met(2), 8);
        DeepHole still = Check.shop(STILL);
        Check.granted(still, "all alike: the first", still.meet(), 1);
        Check.granted(still, "met(8)", still.met(8), 0);
    }

    private static void notMet() {
        // FORCE at the hard place is 19, which 10 doesn't bear: INCH 1 from the front, 2 from behind
        DeepHole x = Check.shop("rod inches 4 wall 100 bush 0;lip 99 oil 50 room 0 bears 18;"
            + "costs inch 12 lip 0 draw 0;way a push 0 hold 0 force 10;hard 1 by 9 up;from 0 feed 1 way a");
        Check.refused(x, "met(1)", x.met(1), 6);
        Check.refused(x, "met(2)", x.met(2), 6);
        Check.refused(x, "met(3)", x.met(3), 6);
        Check.refused(x, "meet()", x.meet(), 6);
        DeepHole y = Check.shop("rod inches 4 wall 100 bush 0;lip 99 oil 50 room 0 bears 18;"
            + "costs inch 12 lip 0 draw 0;way a push 0 hold 0 force 10;hard 0 by 9 up;from 0 feed 1 way a");
        Check.refused(y, "broken at once", y.meet(), 6);
        DeepHole end = Check.shop("rod inches 4 wall 100 bush 0;lip 99 oil 50 room 0 bears 18;"
            + "costs inch 12 lip 0 draw 0;way a push 0 hold 0 force 10;hard 2 by 9 up;from 0 feed 1 way a");
        Check.refused(end, "met(2)", end.met(2), 6);
        Check.refused(end, "met(1)", end.met(1), 6);
        // OUT at INCH 0: that INCH is done
        DeepHole out = Check.shop("rod inches 2 wall 10 bush 0;lip 99 oil 50 room 0 bears 999;"
            + "costs inch 12 lip 0 draw 0;way a push 99 hold 0 force 1;hard 0 by 9 up;from 0 feed 1 way a");
        Check.granted(out, "OUT", out.met(1), 99 + 9);
        Check.granted(out, "OUT", out.meet(), 1);
        DeepHole early = Check.shop("rod inches 5 wall 10 bush 0;lip 99 oil 50 room 0 bears 999;"
            + "costs inch 12 lip 0 draw 0;way a push 99 hold 0 force 1;hard 0 by 1 up;from 0 feed 1 way a");
        Check.refused(early, "met behind OUT", early.met(1), 6);
        Check.refused(early, "met behind OUT", early.meet(), 6);
    }
}
