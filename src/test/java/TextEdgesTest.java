import java.util.regex.Matcher;
import java.util.regex.Pattern;

/** Terms I and promises 2 to 5, edge by edge: one step below each bound, at it, one step above it. */
public final class TextEdgesTest {
    private static final String LAST = "from 0 feed 1 way d";
    private static final String WHOLE = Check.ROD + Check.LIP + Check.COSTS + Check.WAY + LAST;

    public static void main(String[] args) {
        tapeRoom();
        tapeOrder();
        firstBytes();
        nothingTold();
        blanks();
        wordLengths();
        wholeLengths();
        strangeBytes();
        lines();
        everyBeginning();
        everyTokenMissing();
        counts();
        countsBeginAnew();
        risingBeginsAnew();
        namesBeginAnew();
        linesBeginAnew();
        namesAlike();
        namesThatMayBe();
        fullTape();
        eachObjectByItself();
        aheadOfUse();
        theFirstFault();
        theLeastNumber();
        lacks();
        theEnd();
        faultTold();
        whereTold();
        Check.end("TextEdgesTest");
    }

    private static int feedBlanks(DeepHole x) {
        return x.feed(0x20202020, 0x20202020, 0x20202020, 0x20202020, 0x20202020);
    }

    /** "THE TAPE has 700 bytes"; "none comes, if there would be more than 700". */
    private static void tapeRoom() {
        DeepHole x = new DeepHole();
        Check.due("an empty tape", x.state(5), 0);
        for (int i = 1; i <= 34; i++) {
            Check.due("feed " + i, feedBlanks(x), 20 * i);
            Check.due("bytes " + i, x.state(5), 20 * i);
        }
        // the last twenty bytes hold a sign that can be found again
        Check.due("feed that fills it", x.feed(0x20202020, 0x20202020, 0x20202020, 0x20202020, 0x20202021), 700);
        Check.due("feed that is too much", x.feed(0x21212121, 0x21212121, 0x21212121, 0x21212121, 0x21212121),
            DeepHole.NONE);
        Check.due("none came", x.state(5), 700);
        Check.due("feed that is too much again", feedBlanks(x), DeepHole.NONE);
        Check.refused(x, "shop(700)", x.shop(700), 4);
        Check.due("the 700th byte is as it was told", x.where(), 699);
        Check.due("an empty tape again", x.state(5), 0);
        Check.due("room again", feedBlanks(x), 20);
    }

    /** "of each number the highest first": byte n of the twenty is told by where() as the first that isn't a blank. */
    private static void tapeOrder() {
        for (int at = 0; at < 20; at++) {
            int[] n = {0x20202020, 0x20202020, 0x20202020, 0x20202020, 0x20202020};
            int shift = 24 - 8 * (at % 4);
            n[at / 4] = n[at / 4] & ~(255 << shift) | 0x80 << shift;
            DeepHole x = new DeepHole();
            feedBlanks(x);
            Check.due("feed", x.feed(n[0], n[1], n[2], n[3], n[4]), 40);
            Check.refused(x, "shop with byte 128 at " + at, x.shop(40), 4);
            Check.due("its place", x.where(), 20 + at);
        }
    }

    /** "The first n bytes of THE TAPE (it is empty then)": what is behind them isn't read. */
    private static void firstBytes() {
        DeepHole x = new DeepHole();
        String text = WHOLE.replace("force 10", "force 1");
        Check.feedText(x, text + "0,");
        Check.granted(x, "n bytes", x.shop(text.length()), 1);
        Check.due("nothing is left", x.state(5), 0);
        // the seer's number is 12, cut to 1
        String still = WHOLE.replace("push 10", "push 0") + ";seer o sees 12";
        Check.feedText(x, still);
        Check.granted(x, "a WHOLE cut in two", x.shop(still.length() - 1), 1);
        x.drill(4);
        x.blow(1, 0, 1);
        Check.granted(x, "it is 1", x.sees(0), 1);
        Check.feedText(x, still);
        Check.granted(x, "the WHOLE not cut", x.shop(still.length()), 1);
        x.drill(4);
        x.blow(1, 0, 11);
        Check.granted(x, "it is above 11", x.sees(0), 0);
        x.blow(1, 0, 1);
        Check.granted(x, "it is 12", x.sees(0), 1);
        DeepHole y = new DeepHole();
        feedBlanks(y);
        Check.refused(y, "one more than there are", y.shop(21), 2);
        Check.refused(y, "as many as there are", y.shop(20), 4);
        Check.refused(y, "one more than none", y.shop(1), 2);
        Check.refused(y, "none of none", y.shop(0), 4);
        Check.refused(y, "one less than none", y.shop(-1), 2);
    }

    /** A text of no bytes, or of blanks alone, lacks a LINE at its end. */
    private static void nothingTold() {
        fault(1, "@");
        fault(1, " @");
        fault(1, " ".repeat(700) + "@");
        DeepHole x = new DeepHole();
        Check.feedText(x, WHOLE);
        Check.refused(x, "the first 0 bytes", x.shop(0), 4);
        Check.due("place", x.where(), 0);
        Check.due("THE TAPE is empty then", x.state(5), 0);
    }

    /** "blanks, 32, part TOKENS and mean nothing else". */
    private static void blanks() {
        ok(" " + WHOLE);
        ok(WHOLE + " ");
        ok(WHOLE.replace(" ", "  "));
        ok(WHOLE.replace(";", " ;"));
        ok(WHOLE.replace(";", "; "));
        fault(1, "@ro d inches 4");
        fault(1, "rod @in ches 4");
        fault(1, "rod inches 3 @0 wall");
        fault(1, "rod@" + (char) 31 + "inches 4");
        fault(1, "rod@!inches 4");
        fault(1, "rod@\ninches 4");
        fault(1, "rod@" + (char) 160 + "inches 4");
        ok(WHOLE.replace("rod inches 4 wall 100 bush 1", "rod inches4wall100bush1"));
        fault(1, WHOLE.replace("rod inches", "@rodinches"));
    }

    /** "WORDS of 1 to 8 small letters that stand together". */
    private static void wordLengths() {
        ok(WHOLE.replace("way d", "way a"));
        ok(WHOLE.replace("way d", "way abcdefg"));
        ok(WHOLE.replace("way d", "way abcdefgh"));
        fault(1, "way @abcdefghi push 0 hold 0 force 1");
        fault(1, "way @abcdefghijklmnopqrstuvwxyz push 0 hold 0 force 1");
        fault(1, "from 0 feed 1 way @abcdefghi");
        fault(1, "seer @abcdefghi sees 1");
        fault(1, "@rodrodrod inches 4");
        // eight letters that stand together with nothing but a digit behind them are a WORD
        fault(1, "way abcdefgh@1 push 0");
        ok(WHOLE + ";seer zzzzzzzz sees 1;seer zzzzzzz sees 1");
    }

    /** "WHOLES of 1 to 3 digits that do". */
    private static void wholeLengths() {
        ok(WHOLE.replace("inches 4", "inches 04"));
        ok(WHOLE.replace("inches 4", "inches 004"));
        fault(1, "rod inches @0004 wall 10");
        fault(1, "rod inches @1000 wall 10");
        fault(1, "rod inches 4 wall @1000 bush 0");
        fault(4, "rod inches @999 wall 10");
        fault(1, "lip 1 oil 0 room 0 bears @1000");
        fault(1, "rod inches @00000000000000000000004 wall 10");
        DeepHole x = Check.shop(WHOLE.replace("inches 4", "inches 030"));
        Check.due("030 is 30", x.state(6), 30);
        DeepHole y = Check.shop(WHOLE.replace("wall 100", "wall 099"));
        Check.due("099 is 99", y.state(7), 99);
    }

    /** "the first byte that begins no TOKEN": the neighbours of letters, digits, ; and , and the ends of all bytes. */
    private static void strangeBytes() {
        int[] strange = {0, 1, 31, 33, '+', ',', '-', '/', ':', '<', '@' + 1, 'Z', '[', '`', '{', 126, 127, 128, 200, 255};
        for (int sign : strange) {
            fault(1, WHOLE + "@" + (char) sign);
            fault(1, "rod @" + (char) sign + "inches 4");
            fault(1, "way @" + (char) sign + " push 0");
            fault(1, "way d@" + (char) sign + "d push 0");
            fault(1, "rod inches @" + (char) sign + "4 wall 10");
            fault(1, "rod inches 4@" + (char) sign + " wall 10");
        }
        for (char sign = 'a'; sign <= 'z'; sign++) {
            ok(WHOLE.replace("way d", "way " + sign));
        }
        for (char sign = '0'; sign <= '9'; sign++) {
            ok(WHOLE.replace("inches 4", "inches 1" + sign));
        }
    }

    /** "LINE {; LINE}". */
    private static void lines() {
        fault(1, "@;");
        fault(1, "@;" + WHOLE);
        fault(1, WHOLE + ";@");
        fault(1, WHOLE + ";@;" + Check.ROD);
        fault(1, WHOLE + "@,");
        fault(1, WHOLE + " @hard 0 by 1 up");
        fault(6, "seer a sees 1@");
        fault(1, "@inches 4 wall 10 bush 0");
        fault(1, "@draw");
        fault(1, "@sharpen");
        fault(1, "@7");
    }

    /** A text that ends within a LINE: FORM there; behind one, LACKS there. No beginning of a SHOP is one. */
    private static void everyBeginning() {
        String text = Check.ROD + Check.LIP + Check.COSTS + Check.WAY + "hard 2 by 4 up;seer o sees 33;"
            + "from 0 feed 2 way d draw sharpen";
        int plan = text.indexOf("from");
        Matcher tokens = Pattern.compile("[a-z]+|[0-9]+|;").matcher(text);
        fault(1, "@");
        while (tokens.find()) {
            String token = tokens.group();
            int start = tokens.start();
            for (int n = start + 1; n < tokens.end(); n++) {
                String part = text.substring(start, n);
                boolean isTooSmall = text.substring(0, n).matches(".*(wall 1|bears 3)");
                if (token.matches("[a-z]+") || isTooSmall) {
                    fault(isTooSmall ? 4 : 1, text.substring(0, start) + "@" + part);
                } else {
                    fault(isLastOfLine(text, tokens.end()) ? 6 : 1, text.substring(0, n) + "@");
                }
            }
            boolean mayEnd = start > plan && token.matches("d|draw|sharpen");
            for (String blanks : new String[] {"", " "}) {
                String cut = text.substring(0, tokens.end()) + blanks;
                if (mayEnd) {
                    ok(cut);
                } else {
                    fault(!token.equals(";") && isLastOfLine(text, tokens.end()) ? 6 : 1, cut + "@");
                }
            }
        }
    }

    private static boolean isLastOfLine(String text, int end) {
        return end == text.length() || text.charAt(end) == ';';
    }

    /** Each TOKEN of each LINE left out: FORM at the one that comes then, or at the end. */
    private static void everyTokenMissing() {
        String[] sorts = {"rod inches 4 wall 100 bush 1", "lip 10 oil 2 room 5 bears 300",
            "costs inch 12 lip 7 draw 5", "way e push 10 hold 0 force 10", "hard 2 by 4 up", "seer o sees 3",
            "from 3 feed 2 way d"};
        for (String sort : sorts) {
            String[] parts = sort.split(" ");
            for (int missing = 0; missing < parts.length; missing++) {
                // without its NAME the next WORD is taken for it, and the WHOLE behind that is wrong
                int wrong = missing == 1 && sort.matches("(way|seer).*") ? missing + 2 : missing + 1;
                StringBuilder text = new StringBuilder(Check.WAY + LAST + ";");
                for (int i = 0; i < parts.length; i++) {
                    text.append(i == wrong ? " @" : " ").append(i == missing ? "" : parts[i]);
                }
                fault(1, wrong < parts.length ? text.toString() : text + "@");
            }
        }
        ok(WHOLE + " draw sharpen");
        ok(WHOLE + " sharpen");
        ok(WHOLE + " draw");
        fault(1, WHOLE + " sharpen @draw");
        fault(1, WHOLE + " draw @draw");
        fault(1, WHOLE + " draw sharpen @sharpen");
        fault(1, WHOLE + " draw sharpen @draw");
        fault(1, WHOLE + " @drawn");
    }

    /** "up to 4", "up to 10", "up to 8": one less, as many, one more. */
    private static void counts() {
        for (int n = 1; n <= 5; n++) {
            String ways = repeated("way w%s push 0 hold 0 force 1;", n - 1);
            String marked = n == 5 ? ways + "@" + WHOLE.substring(WHOLE.indexOf(Check.WAY)) : ways + WHOLE;
            check(n <= 4 ? 0 : 5, marked, n);
            String seers = repeated(";seer s%s sees 1", n);
            check(n <= 4 ? 0 : 5, n == 5 ? marked(WHOLE + seers, ";seer") : WHOLE + seers, 1);
            DeepHole x = Check.shop(WHOLE + repeated(";seer s%s sees 1", Math.min(n, 4)));
            Check.due("state(9)", x.state(9), Math.min(n, 4));
        }
        for (int n = 9; n <= 11; n++) {
            String hards = ";hard 5 by 1 up".repeat(n);
            check(n <= 10 ? 0 : 5, n == 11 ? marked(WHOLE + hards, ";hard") : WHOLE + hards, 1);
        }
        for (int n = 7; n <= 9; n++) {
            StringBuilder froms = new StringBuilder(WHOLE);
            for (int i = 1; i < n; i++) {
                froms.append(";from ").append(i).append(" feed 1 way d");
            }
            check(n <= 8 ? 0 : 5, n == 9 ? marked(froms.toString(), ";from") : froms.toString(), 1);
        }
    }

    private static String repeated(String form, int n) {
        StringBuilder all = new StringBuilder();
        for (int i = 0; i < n; i++) {
            all.append(form.replace("%s", "" + (char) ('a' + i)));
        }
        return all.toString();
    }

    /** Marks the first WORD of the last LINE of a sort. */
    private static String marked(String text, String front) {
        int at = text.lastIndexOf(front) + 1;
        return text.substring(0, at) + "@" + text.substring(at);
    }

    /** What was told by an earlier text doesn't count, be it right or wrong. */
    private static void countsBeginAnew() {
        String full = repeated("way w%s push 0 hold 0 force 1;", 3) + WHOLE + repeated(";seer s%s sees 1", 4)
            + ";hard 5 by 1 up".repeat(10);
        StringBuilder froms = new StringBuilder(WHOLE);
        for (int i = 1; i < 8; i++) {
            froms.append(";from ").append(i).append(" feed 1 way d");
        }
        DeepHole x = new DeepHole();
        for (int i = 0; i < 3; i++) {
            Check.granted(x, "full again", Check.told(x, full), 4);
            Check.due("seers", x.state(9), 4);
            Check.granted(x, "full of froms again", Check.told(x, froms.toString()), 1);
            Check.due("no seers", x.state(9), 0);
            Check.due("ways", x.state(8), 1);
            Check.refused(x, "full and wrong", Check.told(x, full + ";"), 4);
        }
    }

    /** "INCHES rising" and "the first from's INCH isn't 0" are looked at anew in each text. */
    private static void risingBeginsAnew() {
        DeepHole x = Check.shop(WHOLE + ";from 29 feed 1 way d");
        Check.granted(x, "again", Check.told(x, WHOLE + ";from 29 feed 1 way d"), 1);
        Check.refused(x, "no from behind one that had it", Check.told(x, WHOLE.replace(";" + LAST, "")), 4);
        Check.due("LACKS", x.fault(), 6);
        Check.refused(x, "the first isn't 0", Check.told(x, WHOLE.replace("from 0", "from 1")), 4);
        Check.due("LACKS", x.fault(), 6);
        ok(WHOLE + ";from 1 feed 1 way d;from 2 feed 1 way d");
        fault(4, WHOLE + ";from @0 feed 1 way d");
        fault(4, WHOLE + ";from 3 feed 1 way d;from @3 feed 1 way d");
        fault(4, WHOLE + ";from 3 feed 1 way d;from @2 feed 1 way d");
        ok(WHOLE + ";from 3 feed 1 way d;from 4 feed 1 way d");
        ok(WHOLE + ";from 28 feed 1 way d;from 29 feed 1 way d");
        fault(4, WHOLE + ";from 28 feed 1 way d;from @30 feed 1 way d");
        fault(4, "from @30 feed 1 way d");
    }

    private static void namesBeginAnew() {
        DeepHole x = Check.shop(WHOLE + ";seer o sees 1");
        Check.granted(x, "the same NAMES again", Check.told(x, WHOLE + ";seer o sees 1"), 1);
        Check.granted(x, "a SEER's NAME is a WAY's now",
            Check.told(x, WHOLE.replace("way d", "way o") + ";seer d sees 1"), 1);
        Check.refused(x, "an earlier text's NAME", Check.told(x, "from 0 feed 1 way o"), 4);
        Check.due("no WAY's", x.fault(), 2);
    }

    /** hard places, draws, sharpenings and seers of an earlier SHOP are gone. */
    private static void linesBeginAnew() {
        DeepHole x = new DeepHole();
        String plain = WHOLE.replace("bush 1", "bush 0");
        String hard = plain.replace(LAST, "from 0 feed 2 way d draw sharpen;from 2 feed 3 way d draw sharpen;"
            + "hard 0 by 9 left;hard 1 by 8 up;hard 3 by 9 down;seer o sees 1");
        // in an order by which a SHOP follows each of the two earlier ones, of either sort
        for (boolean isHard : new boolean[] {true, false, false, true, true, false, true, false, false}) {
            Check.told(x, isHard ? hard : plain);
            Check.due("drill", x.drill(4), 4);
            if (isHard) {
                Check.leds(x, 0, 1, 3);
                Check.granted(x, "a seer", x.sees(0), 1);
                continue;
            }
            Check.leds(x);
            Check.due("no draw, no sharpening: its COST", x.state(1), 4 * 13);
            Check.due("x", x.inch(3, 0), 1 + 2 + 3 + 4);
            Check.due("y", x.inch(3, 1), 0);
            Check.due("WEAR", x.inch(3, 3), 8);
            Check.due("CHIPS", x.inch(3, 4), 4);
            Check.refused(x, "no seer", x.sees(0), 1);
        }
        // a hard place told to the left was here, and is harder to its own side now
        String edge = "rod inches 3 wall 20 bush 0;lip 99 oil 50 room 99 bears 999;costs inch 0 lip 0 draw 0;"
            + "way a push 50 hold 0 force 10;from 0 feed 1 way a";
        for (int i = 0; i < 3; i++) {
            Check.told(x, edge + ";hard 0 by 1 left");
        }
        Check.told(x, edge);
        Check.due("drill", x.drill(1), 1);
        Check.due("to the right", x.inch(0, 0), 5);
    }

    /** "each told once": a NAME is another one if a letter is. */
    private static void namesAlike() {
        ok(WHOLE.replace("way d", "way dd") + ";seer d sees 1");
        ok(WHOLE + ";seer dd sees 1;seer e sees 1;seer c sees 1");
        ok(WHOLE.replace("way d", "way abcdefgh") + ";seer abcdefgi sees 1;seer bbcdefgh sees 1;seer abcdefg sees 1");
        fault(3, WHOLE + ";way @d push 0 hold 0 force 1");
        fault(3, WHOLE + ";seer @d sees 1");
        fault(3, "seer a sees 1;seer @a sees 1");
        fault(3, "seer a sees 1;way @a push 0 hold 0 force 1");
        fault(3, "way abcdefgh push 0 hold 0 force 1;seer @abcdefgh sees 1");
        fault(3, repeated("way w%s push 0 hold 0 force 1;", 4) + repeated("seer s%s sees 1;", 3) + "seer @wd sees 1");
        fault(3, repeated("way w%s push 0 hold 0 force 1;", 4) + repeated("seer s%s sees 1;", 3) + "seer @sc sees 1");
        // the eighth NAME is as good as the first
        String eight = repeated("seer s%s sees 1;", 4) + repeated("way w%s push 0 hold 0 force 1;", 4)
            + Check.ROD + Check.LIP + Check.COSTS;
        check(0, eight + "from 0 feed 1 way wa", 4);
        check(0, eight + "from 0 feed 1 way wd", 4);
        fault(2, eight + "from 0 feed 1 way @sd");
        fault(2, eight + "from 0 feed 1 way @we");
        fault(3, Check.ROD + "@rod inches 4 wall 10 bush 0");
        fault(3, Check.LIP + "@lip 1 oil 0 room 0 bears 10");
        fault(3, Check.COSTS + "@costs inch 0 lip 0 draw 0");
    }

    /** "NAMES are WORDS but rod, lip, ..": the other WORDS of LINES are NAMES too, and so is what a letter parts. */
    private static void namesThatMayBe() {
        String[] words = {"inches", "wall", "bush", "oil", "room", "bears", "inch", "push", "hold", "force", "by",
            "right", "up", "left", "down", "feed", "sees", "rods", "ro", "lips", "li", "cost", "ways", "wa", "hards",
            "har", "froms", "fro", "seers", "see", "draws", "drawn", "dra", "sharpens", "sharpe"};
        for (String word : words) {
            ok(WHOLE.replace("way d", "way " + word));
            ok(WHOLE.replace("way d", "way " + word) + " draw sharpen");
            ok(WHOLE + ";seer " + word + " sees 1");
            fault(2, WHOLE + ";from 1 feed 1 way @" + word);
            fault(3, WHOLE.replace("way d", "way " + word) + ";seer @" + word + " sees 1");
        }
    }

    /** A SHOP of 699 and of 700 bytes, its last WHOLE at the very end; the 701st byte has no room. */
    private static void fullTape() {
        String back = ";seer o sees 99";
        for (int n : new int[] {699, 700}) {
            String text = WHOLE + " ".repeat(n - WHOLE.length() - back.length()) + back;
            Check.due("bytes", text.length(), n);
            DeepHole x = new DeepHole();
            Check.feedText(x, text);
            Check.due("a full tape", x.state(5), 700);
            Check.refused(x, "shop(701)", x.shop(701), 2);
            Check.due("THE TAPE stays", x.state(5), 700);
            Check.granted(x, "shop(" + n + ")", x.shop(n), 1);
            Check.due("a seer", x.state(9), 1);
            fault(4, WHOLE + " ".repeat(n - WHOLE.length() - back.length()) + ";seer o sees @00");
        }
    }

    /** What one object is told, another doesn't know. */
    private static void eachObjectByItself() {
        DeepHole one = Check.shop(WHOLE + ";seer o sees 1");
        one.drill(4);
        one.blow(1, 0, 9);
        one.felt(0, 9);
        one.wall(0, 1, 1);
        one.cheapest(1, 0);
        one.shop(-1);
        feedBlanks(one);
        DeepHole two = new DeepHole();
        for (int what = 0; what <= 10; what++) {
            Check.due("state(" + what + ") of a new object", two.state(what), 0);
        }
        Check.due("trouble() of a new object", two.trouble(), 0);
        Check.due("where() of a new object", two.where(), DeepHole.NONE);
        Check.due("feedAt() of a new object", two.feedAt(0), DeepHole.NONE);
        Check.due("clear() of a new object", two.clear(), 0);
        Check.told(two, WHOLE.replace("inches 4", "inches 3"));
        Check.due("INCHES of the one", one.state(6), 4);
        Check.due("INCHES of the other", two.state(6), 3);
        Check.due("done by the one", one.state(0), 4);
        Check.due("done by the other", two.state(0), 0);
        Check.due("trouble() of the one", one.trouble(), 2);
        Check.due("trouble() of the other", two.trouble(), 0);
        Check.due("bytes of the one", one.state(5), 20);
        Check.due("bytes of the other", two.state(5), 0);
    }

    /** "ahead of its use". */
    private static void aheadOfUse() {
        fault(2, "from 0 feed 1 way @d;" + Check.WAY);
        ok(Check.WAY + LAST + ";" + Check.ROD + Check.LIP + Check.COSTS + "seer o sees 1");
        fault(2, "seer d sees 1;from 0 feed 1 way @d");
        fault(2, Check.WAY + "from 0 feed 1 way @e");
        fault(2, Check.WAY + "from 0 feed 1 way @dd");
        fault(2, "way dd push 0 hold 0 force 1;from 0 feed 1 way @d");
        fault(2, Check.WAY + "from 0 feed 1 way @right");
    }

    /** "the first that is met from the left": of each two FAULTS the one further to the left, whatever its number. */
    private static void theFirstFault() {
        fault(4, "rod inches @31 wall 9 bush 10,");
        fault(4, "rod inches 30 wall @9 bush 10,");
        fault(4, "rod inches 30 wall 10 bush @10,");
        fault(1, "rod inches 30 wall 10 bush 9@,");
        fault(1, "rod @inch 31");
        fault(4, "from @30 feed 0 way rod");
        fault(4, "from 0 feed @0 way rod");
        fault(1, "from 0 feed 1 way @rod draw draw");
        fault(2, "from 0 feed 1 way @x draw draw");
        fault(2, "from 1 feed 1 way @x");
        fault(3, "seer a sees 1;seer @a sees 0");
        fault(4, "seer a sees @0;seer a sees 0");
        fault(3, Check.ROD + "@rod inches 31");
        fault(5, repeated("seer s%s sees 1;", 4) + "@seer sa sees 0");
        fault(4, repeated("seer s%s sees 1;", 3) + "seer t sees @0;seer sa sees 0");
        fault(4, "hard @30 by 0 at");
        fault(4, "hard 29 by @0 at");
        fault(4, "hard 29 by @10 at");
        fault(1, "hard 29 by 9 @at");
    }

    /** "of one place the least number": at the end a LINE that isn't whole comes ahead of what lacks. */
    private static void theLeastNumber() {
        fault(1, "rod@");
        fault(1, "rod inches 4 wall 100 bush@");
        fault(6, "rod inches 4 wall 100 bush 1@");
        fault(1, "rod inches 4 wall 100 bush 1;@");
        fault(1, "way @way");
        fault(1, "from 0 feed 1 way @from");
        fault(1, "from 0 feed 1 way @1000");
    }

    /** "no rod, lip, costs, no from, or the first from's INCH isn't 0". */
    private static void lacks() {
        for (String line : new String[] {Check.ROD, Check.LIP, Check.COSTS, LAST}) {
            String text = WHOLE.replace(line, "");
            fault(6, (text.endsWith(";") ? text.substring(0, text.length() - 1) : text) + "@");
        }
        fault(6, "seer a sees 1@");
        fault(6, Check.WAY + LAST + "@");
        fault(6, WHOLE.replace("from 0", "from 1") + "@");
        fault(6, WHOLE.replace("from 0", "from 29") + "@");
        fault(6, WHOLE.replace("from 0", "from 1") + ";from 2 feed 1 way d@");
        ok(WHOLE);
        // a rod's plan may go on behind its end, and hard places may lie there
        ok(WHOLE.replace("inches 4", "inches 2") + ";from 2 feed 1 way d;hard 2 by 1 up;hard 29 by 9 up");
    }

    /** "(the end: its place)": as many bytes as were to be read, blanks too. */
    private static void theEnd() {
        fault(1, "rod   @");
        fault(6, "seer a sees 1   @");
        fault(6, "seer a sees 1" + " ".repeat(687) + "@");
        fault(1, "seer a sees 1;" + " ".repeat(686) + "@");
    }

    /** "The FAULT of the latest shop() not refused by 2; 0 without one." */
    private static void faultTold() {
        String[] texts = {"@", "from 0 feed 1 way @d", Check.ROD + "@rod", "rod inches @1",
            ";hard 0 by 1 up".repeat(10).substring(1) + ";@hard", WHOLE.replace(Check.LIP, "") + "@"};
        DeepHole x = new DeepHole();
        Check.due("fault() of none", x.fault(), 0);
        Check.refused(x, "2 ahead of any", x.shop(1), 2);
        Check.due("fault() behind 2", x.fault(), 0);
        for (int i = 0; i < texts.length; i++) {
            String text = texts[i].replace("@", "");
            Check.refused(x, "shop", Check.told(x, text), 4);
            Check.due("fault()", x.fault(), i + 1);
            Check.due("where()", x.where(), texts[i].indexOf('@'));
            Check.refused(x, "a number", x.shop(1), 2);
            Check.due("fault() stays", x.fault(), i + 1);
            Check.due("where() doesn't", x.where(), DeepHole.NONE);
        }
        Check.granted(x, "a right text", Check.told(x, WHOLE), 1);
        Check.due("fault() without one", x.fault(), 0);
        Check.refused(x, "a number", x.shop(1), 2);
        Check.due("fault() without one stays", x.fault(), 0);
    }

    /** "Its place, if the latest call that may be refused was by 4; NONE else." */
    private static void whereTold() {
        DeepHole x = Check.shop(WHOLE);
        Check.due("where() of a right text", x.where(), DeepHole.NONE);
        Check.told(x, "rod inches 31");
        Check.due("where()", x.where(), 11);
        x.feed(0, 0, 0, 0, 0);
        x.fault();
        x.where();
        x.state(0);
        x.state(11);
        x.feedAt(0);
        x.forget();
        x.stroke(0);
        x.clear();
        Check.ledOf(x, 0);
        x.trouble();
        Check.due("where() behind calls of which no number is told", x.where(), 11);
        x.rod(false);
        Check.due("where() behind a call that may be refused", x.where(), DeepHole.NONE);
        Check.due("fault() stays", x.fault(), 4);
        Check.refused(x, "shop(20)", x.shop(20), 4);
        x.drill(0);
        Check.due("where() behind another refusal", x.where(), DeepHole.NONE);
    }

    private static void check(int number, String marked, int ways) {
        if (number == 0) {
            DeepHole x = new DeepHole();
            Check.granted(x, "shop of " + marked, Check.told(x, marked), ways);
            Check.due("fault of " + marked, x.fault(), 0);
            Check.due("ways of " + marked, x.state(8), ways);
        } else {
            fault(number, marked);
        }
    }

    private static void ok(String text) {
        check(0, text, 1);
    }

    /** The first @ stands where the fault is due. */
    private static void fault(int number, String marked) {
        int at = marked.indexOf('@');
        String text = marked.substring(0, at) + marked.substring(at + 1);
        DeepHole x = new DeepHole();
        Check.refused(x, "shop of " + marked, Check.told(x, text), 4);
        Check.due("fault of " + marked, x.fault(), number);
        Check.due("where of " + marked, x.where(), at);
        Check.due("no SHOP by " + marked, x.state(6), 0);
    }
}
