/**
 * Each number of trouble that a call can be refused by, which of two comes first, and that a refused call
 * changes nothing: an object that refused it and one that was never asked are alike in all they answer.
 */
public final class RefusalTest {
    private static final int LEAST = Integer.MIN_VALUE;
    private static final int MOST = Integer.MAX_VALUE;
    private static final String TEXT = "rod inches 6 wall 100 bush 1;" + Check.LIP + Check.COSTS + Check.WAY
        + "hard 2 by 4 up;hard 4 by 2 left;from 0 feed 2 way d;from 3 feed 1 way d draw sharpen;"
        + "seer o sees 3;seer p sees 99";

    private interface World {
        DeepHole made();
    }

    private interface Call {
        long on(DeepHole x);
    }

    public static void main(String[] args) {
        theWorlds();
        noShop();
        tape();
        drilling();
        oddsAndFeeds();
        bothEnds();
        needle();
        tooShort();
        straight();
        full();
        walls();
        Check.end("RefusalTest");
    }

    private static DeepHole withTape(DeepHole x) {
        Check.feedText(x, Check.BASE);
        return x;
    }

    private static DeepHole empty() {
        return withTape(new DeepHole());
    }

    private static DeepHole fresh() {
        return withTape(Check.shop(TEXT));
    }

    private static DeepHole two() {
        DeepHole x = fresh();
        x.drill(2);
        return x;
    }

    /** Something of everything: INCHES, BLOWS, FORCES felt, WALLS, feeds and strokes found, bytes on the tape. */
    private static DeepHole rich() {
        return withTape(richWithoutTape());
    }

    private static DeepHole richWithoutTape() {
        DeepHole x = Check.shop(TEXT);
        x.cheapest(3, 50);
        x.rod(true);
        x.drill(5);
        x.blow(1, 1, 4);
        x.blow(3, 0, 7);
        x.fewest(6, 9);
        x.felt(0, 20);
        x.felt(1, 34);
        x.wall(0, 0, 2);
        x.wall(5, 9, 20);
        return x;
    }

    private static DeepHole filled() {
        DeepHole x = rich();
        for (int i = x.state(3); i < 20; i++) {
            x.blow(2, i % 4, i);
        }
        for (int i = x.state(4); i < 12; i++) {
            x.felt(0, 20);
        }
        return x;
    }

    private static DeepHole drilled(String text, int due) {
        DeepHole x = Check.shop(text);
        x.drill(30);
        Check.due("the drill of " + text, x.state(2), due);
        return withTape(x);
    }

    private static DeepHole through() {
        return drilled(TEXT, 3);
    }

    private static DeepHole broken() {
        return drilled(TEXT.replace("hard 4 by 2", "hard 3 by 9").replace("feed 1", "feed 9")
            .replace("bears 300", "bears 100"), 1);
    }

    private static DeepHole out() {
        return drilled(TEXT.replace("wall 100", "wall 10"), 2);
    }

    private static void refuse(World world, String name, Call call, long answer, int trouble) {
        DeepHole x = world.made();
        int fault = x.fault();
        Check.refused(x, name, call.on(x), answer, trouble);
        Check.due(name + ", where()", x.where(), DeepHole.NONE);
        Check.due(name + ", fault()", x.fault(), fault);
        Look.at(x, Check.BASE.length()).dueLike(name, Look.at(world.made(), Check.BASE.length()));
    }

    private static void none(World world, String name, Call call, int trouble) {
        refuse(world, name, call, DeepHole.NONE, trouble);
    }

    private static void nowhere(World world, String name, Call call, int trouble) {
        refuse(world, name, call, Check.NOWHERE, trouble);
    }

    private static void untrue(World world, String name, Call call, int trouble) {
        refuse(world, name, call, 0, trouble);
    }

    /** If there were nothing to change, nothing could be seen to stay. */
    private static void theWorlds() {
        DeepHole x = rich();
        Check.due("INCHES", x.state(0), 5);
        Check.due("BLOWS", x.state(3), 2);
        Check.due("FELT", x.state(4), 2);
        Check.due("bytes", x.state(5) >= Check.BASE.length(), true);
        Check.due("feeds", x.feedAt(2) > 0, true);
        Check.due("strokes", x.stroke(0) > 0, true);
        Check.due("led", Check.ledOf(x, 0), 1);
        Check.due("CAUSES", x.causes() > 0, true);
        Check.due("lies", x.lies(0, 30, true), 2);
        Check.due("full of BLOWS", filled().state(3), 20);
        Check.due("full of FORCES", filled().state(4), 12);
    }

    /** Without a SHOP 1 comes ahead of all other numbers. */
    private static void noShop() {
        untrue(RefusalTest::empty, "rod", x -> x.rod(true) ? 1 : 0, 1);
        for (int n : new int[] {LEAST, -1, 0, 1, 2, 3, 10, 100, MOST}) {
            none(RefusalTest::empty, "drill " + n, x -> x.drill(n), 1);
            nowhere(RefusalTest::empty, "inch " + n, x -> x.inch(n, n), 1);
            none(RefusalTest::empty, "odds " + n, x -> x.odds(n, n), 1);
            none(RefusalTest::empty, "rows " + n, x -> x.rows(n), 1);
            none(RefusalTest::empty, "cheapest " + n, x -> x.cheapest(n, n), 1);
            none(RefusalTest::empty, "met " + n, x -> x.met(n), 1);
            none(RefusalTest::empty, "felt " + n, x -> x.felt(n, n), 1);
            none(RefusalTest::empty, "cause " + n, x -> x.cause(n, n), 1);
            none(RefusalTest::empty, "sure " + n, x -> x.sure(n), 1);
            nowhere(RefusalTest::empty, "off " + n, x -> x.off(n, false), 1);
            none(RefusalTest::empty, "ring " + n, x -> x.ring(n), 1);
            none(RefusalTest::empty, "sees " + n, x -> x.sees(n), 1);
            none(RefusalTest::empty, "blow " + n, x -> x.blow(n, n, n), 1);
            none(RefusalTest::empty, "fewest " + n, x -> x.fewest(n, n), 1);
            untrue(RefusalTest::empty, "wall " + n, x -> x.wall(n, n, n) ? 1 : 0, 1);
            nowhere(RefusalTest::empty, "lies " + n, x -> x.lies(n, n, true), 1);
            none(RefusalTest::empty, "next " + n, x -> x.next(n), 1);
        }
        none(RefusalTest::empty, "meet", DeepHole::meet, 1);
        none(RefusalTest::empty, "causes", DeepHole::causes, 1);
        none(RefusalTest::empty, "heat", DeepHole::heat, 1);
        none(RefusalTest::empty, "about", DeepHole::about, 1);
    }

    /** 2: THE TAPE stays; 4: the SHOP stays, with all that was done in it, but THE TAPE is empty. */
    private static void tape() {
        int most = rich().state(5);
        none(RefusalTest::empty, "shop -1", x -> x.shop(-1), 2);
        none(RefusalTest::rich, "shop -1", x -> x.shop(-1), 2);
        none(RefusalTest::rich, "shop least", x -> x.shop(LEAST), 2);
        none(RefusalTest::rich, "shop most", x -> x.shop(MOST), 2);
        none(RefusalTest::rich, "shop beyond the tape", x -> x.shop(most + 1), 2);
        none(RefusalTest::richWithoutTape, "shop(1) of an empty tape", x -> x.shop(1), 2);
        for (int n : new int[] {0, 1, 3, 20, Check.BASE.length() - 1, Check.BASE.length() - 2}) {
            DeepHole x = rich();
            Check.refused(x, "a part of a text, " + n, x.shop(n), 4);
            Check.due("its place, " + n, x.where() >= 0 && x.where() <= n, true);
            Check.due("a FAULT, " + n, x.fault() >= 1 && x.fault() <= 6, true);
            Check.due("THE TAPE is empty, " + n, x.state(5), 0);
            DeepHole like = richWithoutTape();
            like.shop(0);
            Check.told(x, "way");
            Check.told(like, "way");
            Look.at(x, 0).dueLike("the SHOP stays, " + n, Look.at(like, 0));
        }
        DeepHole never = new DeepHole();
        Check.told(never, "rod inches 1");
        Check.refused(never, "no SHOP behind a wrong text", never.drill(1), 1);
        Check.due("no rod behind a wrong text", never.state(6), 0);
    }

    private static void drilling() {
        for (int n : new int[] {LEAST, -1, 0, 31, MOST}) {
            none(RefusalTest::fresh, "drill " + n, x -> x.drill(n), 2);
            none(RefusalTest::rich, "2 comes ahead of 5, with BLOWS, " + n, x -> x.drill(n), 2);
            none(RefusalTest::broken, "2 comes ahead of 5, BROKEN, " + n, x -> x.drill(n), 2);
        }
        for (int n : new int[] {1, 30}) {
            none(RefusalTest::rich, "drill with BLOWS, " + n, x -> x.drill(n), 5);
            none(RefusalTest::through, "drill through, " + n, x -> x.drill(n), 5);
            none(RefusalTest::broken, "drill BROKEN, " + n, x -> x.drill(n), 5);
            none(RefusalTest::out, "drill OUT, " + n, x -> x.drill(n), 5);
        }
        for (int i : new int[] {LEAST, -1, 5, 6, 29, 30, MOST}) {
            nowhere(RefusalTest::rich, "inch " + i, x -> x.inch(i, 0), 1);
            nowhere(RefusalTest::rich, "inch 0, what " + (i == 5 || i == 6 ? 7 : i),
                x -> x.inch(0, i == 5 || i == 6 ? 7 : i), 1);
        }
        nowhere(RefusalTest::fresh, "inch of none done", x -> x.inch(0, 0), 1);
        nowhere(RefusalTest::broken, "inch at which it is BROKEN", x -> x.inch(x.state(0), 2), 1);
    }

    private static void oddsAndFeeds() {
        for (int n : new int[] {LEAST, -1, 0, 7, 9, 10, MOST}) {
            none(RefusalTest::rich, "odds " + n, x -> x.odds(n, 5), 2);
            none(RefusalTest::rich, "rows " + n, x -> x.rows(n), 2);
            none(RefusalTest::rich, "cheapest " + n, x -> x.cheapest(n, 5), 2);
        }
        for (int near : new int[] {LEAST, -1, 1000, MOST}) {
            none(RefusalTest::rich, "odds near " + near, x -> x.odds(2, near), 2);
            none(RefusalTest::rich, "cheapest near " + near, x -> x.cheapest(2, near), 2);
        }
        none(RefusalTest::rich, "cheapest of none", x -> x.cheapest(3, 0), 6);
        none(RefusalTest::fresh, "cheapest of none, ahead of any", x -> x.cheapest(3, 0), 6);
    }

    private static void bothEnds() {
        for (int m : new int[] {LEAST, -1, 0, 6, 7, MOST}) {
            none(RefusalTest::rich, "met " + m, x -> x.met(m), 2);
            none(RefusalTest::broken, "2 comes ahead of 6, " + m, x -> x.met(m), 2);
        }
        World apart = () -> drilled(TEXT.replace("hard 2 by 4", "hard 2 by 9").replace("hard 4 by 2", "hard 3 by 9")
            .replace("bears 300", "bears 36"), 1);
        for (int m = 1; m <= 5; m++) {
            int at = m;
            none(apart, "met where none comes, " + m, x -> x.met(at), 6);
        }
        none(apart, "meet nowhere", DeepHole::meet, 6);
    }

    private static void needle() {
        for (int i : new int[] {LEAST, -1, 6, 29, 30, MOST}) {
            none(RefusalTest::rich, "felt at " + i, x -> x.felt(i, 5), 1);
            none(RefusalTest::rich, "1 comes ahead of 2 at " + i, x -> x.felt(i, -1), 1);
            none(RefusalTest::filled, "1 comes ahead of 3 at " + i, x -> x.felt(i, 5), 1);
        }
        for (int force : new int[] {LEAST, -1, 10000, MOST}) {
            none(RefusalTest::rich, "felt " + force, x -> x.felt(0, force), 2);
            none(RefusalTest::filled, "2 comes ahead of 3, " + force, x -> x.felt(0, force), 2);
        }
        none(RefusalTest::filled, "the 13th", x -> x.felt(5, 9999), 3);
        int many = rich().causes();
        for (int i : new int[] {LEAST, -1, many, many + 1, 8 * 31, MOST}) {
            none(RefusalTest::rich, "cause " + i, x -> x.cause(i, 0), 1);
        }
        World unfitting = () -> {
            DeepHole x = rich();
            x.felt(0, 9999);
            return x;
        };
        for (int what : new int[] {LEAST, -1, 3, 4, MOST}) {
            none(RefusalTest::rich, "cause 0, what " + what, x -> x.cause(0, what), 1);
            none(RefusalTest::rich, "sure " + what, x -> x.sure(what), 1);
            none(unfitting, "1 comes ahead of 6, " + what, x -> x.sure(what), 1);
        }
        for (int what = 0; what < 3; what++) {
            int asked = what;
            none(unfitting, "sure without CAUSES, " + what, x -> x.sure(asked), 6);
            none(unfitting, "cause without CAUSES, " + what, x -> x.cause(0, asked), 1);
        }
    }

    /** Fewer than three INCHES are done: 5, behind 1 and 2 where these are told ahead of it. */
    private static void tooShort() {
        World[] worlds = {RefusalTest::fresh, RefusalTest::two};
        for (World world : worlds) {
            for (int i : new int[] {LEAST, -1, 2, MOST}) {
                nowhere(world, "off " + i, x -> x.off(i, true), 1);
                none(world, "blow at " + i, x -> x.blow(i, 0, 1), 5);
                none(world, "sees " + i, x -> x.sees(i), 1);
            }
            for (int what = 0; what < 3; what++) {
                int asked = what;
                none(world, "ring " + what, x -> x.ring(asked), 5);
            }
            none(world, "ring -1", x -> x.ring(-1), 1);
            none(world, "ring 3", x -> x.ring(3), 1);
            none(world, "sees 0", x -> x.sees(0), 5);
            none(world, "sees 1", x -> x.sees(1), 5);
            none(world, "blow", x -> x.blow(1, 0, 1), 5);
            none(world, "5 comes ahead of a wrong b", x -> x.blow(1, 3, 0), 5);
            none(world, "a wrong side comes ahead of 5", x -> x.blow(1, 4, 1), 1);
            none(world, "a wrong side comes ahead of 5", x -> x.blow(1, -1, 1), 1);
            none(world, "fewest", x -> x.fewest(1, 0), 5);
            none(world, "2 comes ahead of 5, b", x -> x.fewest(0, 0), 2);
            none(world, "2 comes ahead of 5, t", x -> x.fewest(1, 1000), 2);
            none(world, "about", DeepHole::about, 5);
        }
        nowhere(RefusalTest::fresh, "off of none done", x -> x.off(0, false), 1);
        nowhere(RefusalTest::two, "off 0 of two", x -> x.off(0, false), 5);
        nowhere(RefusalTest::two, "off 1 of two", x -> x.off(1, true), 5);
    }

    private static void straight() {
        for (int i : new int[] {LEAST, -1, 5, 6, MOST}) {
            nowhere(RefusalTest::rich, "off " + i, x -> x.off(i, false), 1);
        }
        for (int what : new int[] {LEAST, -1, 3, MOST}) {
            none(RefusalTest::rich, "ring " + what, x -> x.ring(what), 1);
        }
        for (int seer : new int[] {LEAST, -1, 2, 3, 4, MOST}) {
            none(RefusalTest::rich, "sees " + seer, x -> x.sees(seer), 1);
        }
        for (int side : new int[] {LEAST, -1, 4, MOST}) {
            none(RefusalTest::rich, "blow from side " + side, x -> x.blow(1, side, 1), 1);
        }
        for (int i : new int[] {LEAST, -1, 0, 4, 5, MOST}) {
            none(RefusalTest::rich, "blow at " + i, x -> x.blow(i, 0, 1), 1);
            none(RefusalTest::rich, "1 comes ahead of 2, at " + i, x -> x.blow(i, 0, 0), 1);
        }
        for (int b : new int[] {LEAST, -1, 0, 100, MOST}) {
            none(RefusalTest::rich, "blow by " + b, x -> x.blow(1, 0, b), 2);
            none(RefusalTest::rich, "fewest by " + b, x -> x.fewest(b, 0), 2);
        }
        for (int t : new int[] {LEAST, -1, 1000, MOST}) {
            none(RefusalTest::rich, "fewest to " + t, x -> x.fewest(1, t), 2);
        }
        none(RefusalTest::rich, "not by two", x -> x.fewest(1, 0), 6);
    }

    private static void full() {
        none(RefusalTest::filled, "the 21st BLOW", x -> x.blow(1, 0, 1), 3);
        none(RefusalTest::filled, "a wrong b comes ahead of 3", x -> x.blow(1, 0, 100), 2);
        none(RefusalTest::filled, "a wrong INCH comes ahead of 3", x -> x.blow(4, 0, 1), 1);
        none(RefusalTest::filled, "a wrong side comes ahead of 3", x -> x.blow(1, 4, 1), 1);
        DeepHole x = richWithFullTape();
        DeepHole like = richWithFullTape();
        Check.due("none comes", x.feed(0, 1, 2, 3, 4), DeepHole.NONE);
        Look.at(x, 700).dueLike("feed of a full tape", Look.at(like, 700));
    }

    /** Tries often enough, and no more often: the test ends whatever the tape takes. */
    private static DeepHole richWithFullTape() {
        DeepHole x = rich();
        for (int i = 0; i < 35 && x.state(5) < 700; i++) {
            x.feed(0x20202020, 0x20202020, 0x20202020, 0x20202020, 0x20202020);
        }
        Check.due("a full tape", x.state(5), 700);
        return x;
    }

    private static void walls() {
        for (int i : new int[] {LEAST, -1, 6, 29, 30, MOST}) {
            untrue(RefusalTest::rich, "wall at " + i, x -> x.wall(i, 0, 0) ? 1 : 0, 1);
            untrue(RefusalTest::rich, "1 comes ahead of 2 at " + i, x -> x.wall(i, 1, 0) ? 1 : 0, 1);
            nowhere(RefusalTest::rich, "lies at " + i, x -> x.lies(i, 0, true), 1);
            nowhere(RefusalTest::rich, "1 comes ahead of 2, lies at " + i, x -> x.lies(i, -1, true), 1);
        }
        int[][] wrong = {{-1000, 0}, {0, 1000}, {-1000, 1000}, {1, 0}, {999, 998}, {-998, -999}, {999, -999},
            {1000, 1000}, {-1000, -1000}, {LEAST, MOST}, {MOST, LEAST}, {LEAST, LEAST}, {MOST, MOST}};
        for (int[] pair : wrong) {
            untrue(RefusalTest::rich, "wall " + pair[0] + ", " + pair[1],
                x -> x.wall(0, pair[0], pair[1]) ? 1 : 0, 2);
        }
        World impossible = () -> {
            DeepHole x = rich();
            x.wall(0, 0, 0);
            x.wall(1, 99, 99);
            x.wall(2, 0, 0);
            return x;
        };
        for (int k : new int[] {LEAST, -1, 100, MOST}) {
            nowhere(RefusalTest::rich, "lies by " + k, x -> x.lies(0, k, true), 2);
            none(RefusalTest::rich, "next by " + k, x -> x.next(k), 2);
            nowhere(impossible, "2 comes ahead of 6, lies by " + k, x -> x.lies(0, k, false), 2);
            none(impossible, "2 comes ahead of 6, next by " + k, x -> x.next(k), 2);
        }
        for (int k : new int[] {0, 99}) {
            nowhere(impossible, "lies where none can, by " + k, x -> x.lies(5, k, true), 6);
            none(impossible, "next where none can, by " + k, x -> x.next(k), 6);
        }
    }
}
