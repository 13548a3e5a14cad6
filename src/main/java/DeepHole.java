import java.util.NoSuchElementException;

/** A hole drilled through a rod, told as a text: see DOC.md for the promises. */
public final class DeepHole {
    public static final int NONE = -1;

    private static final int NOWHERE = -1000000;
    private static final int TAPE_ROOM = 700;
    private static final int FED_AT_ONCE = 20;
    private static final int MOST_INCHES = 30;
    private static final int MOST_WAYS = 4;
    private static final int MOST_HARD = 10;
    private static final int MOST_FROMS = 8;
    private static final int MOST_SEERS = 4;
    private static final int MOST_FELT = 12;
    private static final int MOST_BLOWS = 20;
    private static final int MOST_ODDS_INCHES = 9;
    private static final int MOST_CHEAP_INCHES = 7;
    private static final int MOST_CHEAP_FEED = 4;
    private static final int MOST_MEASURE = 999;
    private static final int MOST_BLOW = 99;
    private static final int MOST_STEP = 99;
    private static final int MOST_FORCE = 9999;
    private static final int SIDES = 4;

    private static final int NO_SUCH = 1;
    private static final int BAD_NUMBER = 2;
    private static final int NO_ROOM = 3;
    private static final int FAULTY = 4;
    private static final int NOT_SO = 5;
    private static final int NOTHING = 6;

    private static final int WHOLE_DRILL = 0;
    private static final int BROKEN = 1;
    private static final int OUT = 2;
    private static final int THROUGH = 3;

    private final Reader reader;
    private final Hole hole;
    private final Search search;
    private final Ends ends;
    private final Needle needle;
    private final Bench bench;
    private final Walls walls;
    private Shop current;
    private boolean hasShop;
    private int latestTrouble;
    private int latestFault;
    private int faultPlace;

    public DeepHole() {
        reader = new Reader();
        hole = new Hole();
        search = new Search();
        ends = new Ends();
        needle = new Needle();
        bench = new Bench();
        walls = new Walls();
        current = new Shop();
        hasShop = false;
        latestTrouble = 0;
        latestFault = 0;
        faultPlace = NONE;
    }

    // ---- the shop

    public int feed(int a, int b, int c, int d, int e) {
        Tokens tape = reader.tokens;
        if (tape.filled > TAPE_ROOM - FED_AT_ONCE) {
            return NONE;
        }
        tape.put(a);
        tape.put(b);
        tape.put(c);
        tape.put(d);
        tape.put(e);
        return tape.filled;
    }

    public int shop(int n) {
        if (n < 0 || n > reader.tokens.filled) {
            return refuse(BAD_NUMBER);
        }
        latestFault = reader.read(n);
        faultPlace = reader.faultAt;
        reader.tokens.filled = 0;
        if (latestFault != 0) {
            return refuse(FAULTY);
        }
        current = reader.exchange(current);
        hasShop = true;
        hole.begin(false);
        search.drop();
        needle.drop();
        bench.drop();
        walls.drop();
        return accept(current.ways);
    }

    public int fault() {
        return latestFault;
    }

    public int where() {
        return latestTrouble == FAULTY ? faultPlace : NONE;
    }

    // ---- drilling

    public boolean rod(boolean backward) {
        if (!hasShop) {
            refuse(NO_SUCH);
            return false;
        }
        hole.begin(backward);
        accept(0);
        return true;
    }

    public int drill(int n) {
        if (!hasShop) {
            return refuse(NO_SUCH);
        }
        if (n < 1 || n > MOST_INCHES) {
            return refuse(BAD_NUMBER);
        }
        if (hole.fateIn(current) != WHOLE_DRILL || hole.blows > 0) {
            return refuse(NOT_SO);
        }
        int before = hole.bit.done;
        for (int i = 0; i < n && hole.fateIn(current) == WHOLE_DRILL; i++) {
            hole.goOn(current);
        }
        return accept(hole.bit.done - before);
    }

    public int inch(int i, int what) {
        if (!hasShop || !hole.isDone(i) || what < 0 || what >= Hole.KINDS) {
            return refuseNowhere(NO_SUCH);
        }
        return accept(hole.kept[what][i]);
    }

    public int state(int what) {
        if (what < 0 || what > 10) {
            return NONE;
        }
        if (what == 5) {
            return reader.tokens.filled;
        }
        if (!hasShop) {
            return 0;
        }
        switch (what) {
            case 0: return hole.bit.done;
            case 1: return hole.bit.cost;
            case 2: return hole.fateIn(current);
            case 3: return hole.blows;
            case 4: return needle.count;
            case 6: return current.inches;
            case 7: return current.wallThick;
            case 8: return current.ways;
            case 9: return current.seers;
            default: return hole.bit.fate == BROKEN ? hole.bit.force : 0;
        }
    }

    // ---- odds, feeds, both ends

    public int odds(int n, int near) {
        int refused = oddsRefused(n);
        if (refused != 0) {
            return refuse(refused);
        }
        if (near < 0 || near > MOST_MEASURE) {
            return refuse(BAD_NUMBER);
        }
        return accept(search.countOdds(current, n, near));
    }

    public int rows(int n) {
        int refused = oddsRefused(n);
        if (refused != 0) {
            return refuse(refused);
        }
        int all = 1;
        for (int i = 0; i < n; i++) {
            if (i >= current.bush) {
                all *= 4;
            }
        }
        return accept(all);
    }

    public int cheapest(int n, int near) {
        if (!hasShop) {
            return refuse(NO_SUCH);
        }
        if (n < 1 || n > MOST_CHEAP_INCHES || n > current.inches) {
            return refuse(BAD_NUMBER);
        }
        if (near < 0 || near > MOST_MEASURE) {
            return refuse(BAD_NUMBER);
        }
        if (!search.findCheapest(current, n, near)) {
            return refuse(NOTHING);
        }
        return accept(search.bestCost);
    }

    public int feedAt(int i) {
        return i < 0 || i >= search.bestCount ? NONE : search.best[i];
    }

    public int met(int m) {
        if (!hasShop) {
            return refuse(NO_SUCH);
        }
        if (m < 1 || m >= current.inches) {
            return refuse(BAD_NUMBER);
        }
        ends.goBothWays(current);
        int apart = ends.apartAt(current, m);
        return apart < 0 ? refuse(NOTHING) : accept(apart);
    }

    public int meet() {
        if (!hasShop) {
            return refuse(NO_SUCH);
        }
        ends.goBothWays(current);
        int m = ends.nearest(current);
        return m < 0 ? refuse(NOTHING) : accept(m);
    }

    // ---- the needle

    public int felt(int i, int force) {
        if (!isInchOfRod(i)) {
            return refuse(NO_SUCH);
        }
        if (force < 0 || force > MOST_FORCE) {
            return refuse(BAD_NUMBER);
        }
        if (needle.count >= MOST_FELT) {
            return refuse(NO_ROOM);
        }
        needle.add(i, force);
        return accept(needle.count);
    }

    public int forget() {
        int were = needle.count;
        needle.drop();
        return were;
    }

    public int causes() {
        if (!hasShop) {
            return refuse(NO_SUCH);
        }
        needle.search(current);
        return accept(needle.fitting);
    }

    public int cause(int i, int what) {
        if (!hasShop || what < 0 || what >= Needle.KINDS) {
            return refuse(NO_SUCH);
        }
        needle.search(current);
        if (i < 0 || i >= needle.fitting) {
            return refuse(NO_SUCH);
        }
        return accept(needle.found[what][i]);
    }

    public int sure(int what) {
        if (!hasShop || what < 0 || what >= Needle.KINDS) {
            return refuse(NO_SUCH);
        }
        needle.search(current);
        if (needle.fitting == 0) {
            return refuse(NOTHING);
        }
        return accept(needle.alike(what));
    }

    // ---- straight

    public int off(int i, boolean isY) {
        if (!hasShop || !hole.isDone(i)) {
            return refuseNowhere(NO_SUCH);
        }
        if (!hole.isLongEnough()) {
            return refuseNowhere(NOT_SO);
        }
        return accept(hole.offTrue(isY ? Hole.Y : Hole.X, i));
    }

    public int ring(int what) {
        if (!hasShop || what < 0 || what > 2) {
            return refuse(NO_SUCH);
        }
        if (!hole.isLongEnough()) {
            return refuse(NOT_SO);
        }
        int worst = hole.worstInch();
        if (what == 0) {
            return accept(worst);
        }
        return accept(what == 1 ? hole.offAt(worst) : hole.sideAt(worst));
    }

    public int sees(int seer) {
        if (!hasShop || seer < 0 || seer >= current.seers) {
            return refuse(NO_SUCH);
        }
        if (!hole.isLongEnough()) {
            return refuse(NOT_SO);
        }
        int shadow = hole.offAt(hole.worstInch());
        return accept(shadow >= current.seerSees[seer] ? 1 : 0);
    }

    public int blow(int i, int side, int b) {
        if (!hasShop || side < 0 || side >= SIDES) {
            return refuse(NO_SUCH);
        }
        if (!hole.isLongEnough()) {
            return refuse(NOT_SO);
        }
        if (i < 1 || i > hole.bit.done - 2) {
            return refuse(NO_SUCH);
        }
        if (b < 1 || b > MOST_BLOW) {
            return refuse(BAD_NUMBER);
        }
        if (hole.blows >= MOST_BLOWS) {
            return refuse(NO_ROOM);
        }
        hole.strike(i, side, b);
        return accept(hole.blows);
    }

    public int fewest(int b, int t) {
        if (!hasShop) {
            return refuse(NO_SUCH);
        }
        if (b < 1 || b > MOST_BLOW || t < 0 || t > MOST_MEASURE) {
            return refuse(BAD_NUMBER);
        }
        if (!hole.isLongEnough()) {
            return refuse(NOT_SO);
        }
        if (!bench.findFewest(hole, b, t)) {
            return refuse(NOTHING);
        }
        return accept(bench.strokeCount);
    }

    public int stroke(int i) {
        return i < 0 || i >= bench.strokeCount ? NONE : bench.strokes[i];
    }

    public int heat() {
        if (!hasShop) {
            return refuse(NO_SUCH);
        }
        return accept(hole.springBack());
    }

    public int about() {
        if (!hasShop) {
            return refuse(NO_SUCH);
        }
        if (!hole.isLongEnough()) {
            return refuse(NOT_SO);
        }
        return accept(current.wallThick - hole.widestPart());
    }

    // ---- walls

    public boolean wall(int i, int low, int high) {
        if (!isInchOfRod(i)) {
            refuse(NO_SUCH);
            return false;
        }
        if (low < -MOST_MEASURE || high > MOST_MEASURE || low > high) {
            refuse(BAD_NUMBER);
            return false;
        }
        walls.tell(i, low, high);
        accept(0);
        return true;
    }

    public int clear() {
        int were = walls.howMany();
        walls.drop();
        return were;
    }

    public int lies(int i, int k, boolean most) {
        if (!isInchOfRod(i)) {
            return refuseNowhere(NO_SUCH);
        }
        if (k < 0 || k > MOST_STEP) {
            return refuseNowhere(BAD_NUMBER);
        }
        if (!walls.narrow(current, k)) {
            return refuseNowhere(NOTHING);
        }
        return accept(most ? walls.spanHigh[i] : walls.spanLow[i]);
    }

    public int next(int k) {
        if (!hasShop) {
            return refuse(NO_SUCH);
        }
        if (k < 0 || k > MOST_STEP) {
            return refuse(BAD_NUMBER);
        }
        if (!walls.narrow(current, k)) {
            return refuse(NOTHING);
        }
        return accept(walls.widestInch(current));
    }

    public int led(int i) throws NoSuchElementException {
        int found = hasShop ? hole.hardInch(current, i) : NONE;
        if (found < 0) {
            throw new NoSuchElementException();
        }
        return found;
    }

    public int trouble() {
        return latestTrouble;
    }

    private int accept(int answer) {
        latestTrouble = 0;
        return answer;
    }

    private int refuse(int number) {
        latestTrouble = number;
        return NONE;
    }

    private int refuseNowhere(int number) {
        latestTrouble = number;
        return NOWHERE;
    }

    private boolean isInchOfRod(int i) {
        return hasShop && i >= 0 && i < current.inches;
    }

    private int oddsRefused(int n) {
        if (!hasShop) {
            return NO_SUCH;
        }
        return n < 1 || n > MOST_ODDS_INCHES || n > current.inches ? BAD_NUMBER : 0;
    }

    private static int sizeOf(int number) {
        return number < 0 ? -number : number;
    }

    /** Towards 0; a divisor of 0 never comes, but is looked at all the same. */
    private static int divided(int number, int by) {
        return by == 0 ? 0 : number / by;
    }

    private static int sideX(int side) {
        return side == 0 ? 1 : side == 2 ? -1 : 0;
    }

    private static int sideY(int side) {
        return side == 1 ? 1 : side == 3 ? -1 : 0;
    }

    /** What a text has told; all numbers are within the document's bounds once it is read whole. */
    private static final class Shop {
        int inches;
        int wallThick;
        int bush;
        int lip;
        int oil;
        int room;
        int bears;
        int costInch;
        int costLip;
        int costDraw;
        int ways;
        int seers;
        final int[] wayPush = new int[MOST_WAYS];
        final int[] wayHold = new int[MOST_WAYS];
        final int[] wayForce = new int[MOST_WAYS];
        final int[] hardBy = new int[MOST_INCHES];
        final int[] hardSide = new int[MOST_INCHES];
        final int[] seerSees = new int[MOST_SEERS];
        final Plan plan = new Plan();

        void empty() {
            inches = 0;
            ways = 0;
            seers = 0;
            for (int i = 0; i < MOST_INCHES; i++) {
                hardBy[i] = 0;
                hardSide[i] = 0;
            }
            plan.empty();
        }

        int hardAt(int spot) {
            return spot < 0 || spot >= hardBy.length ? 0 : hardBy[spot];
        }

        int sideAt(int spot) {
            return spot < 0 || spot >= hardSide.length ? 0 : hardSide[spot];
        }

        /** The told INCH that lies at INCH i of the rod. */
        int spotOf(int i, boolean backward) {
            return backward ? inches - 1 - i : i;
        }

        int wayAt(int i) {
            int way = i < 0 || i >= MOST_INCHES ? 0 : plan.way[i];
            return way < 0 || way >= MOST_WAYS ? 0 : way;
        }

        int feedFor(int i) {
            return i < 0 || i >= MOST_INCHES ? 1 : plan.feed[i];
        }
    }

    /** The plan spread over the INCHES, so that no search for the latest from is needed. */
    private static final class Plan {
        final int[] feed = new int[MOST_INCHES];
        final int[] way = new int[MOST_INCHES];
        final boolean[] draw = new boolean[MOST_INCHES];
        final boolean[] sharpen = new boolean[MOST_INCHES];

        void empty() {
            for (int i = 0; i < MOST_INCHES; i++) {
                feed[i] = 1;
                way[i] = 0;
                draw[i] = false;
                sharpen[i] = false;
            }
        }

        /** Lines come with INCHES rising, so a later one overwrites what is behind it. */
        void from(int inch, int fed, int by) {
            for (int i = inch < 0 ? 0 : inch; i < MOST_INCHES; i++) {
                feed[i] = fed;
                way[i] = by;
            }
        }
    }

    /** The tape, and the tokens of its first bytes. */
    private static final class Tokens {
        static final int END = 0;
        static final int WORD = 1;
        static final int WHOLE = 2;
        static final int SEMICOLON = 3;
        static final int STRANGE = 4;
        static final int LONGEST_WORD = 8;
        static final int LONGEST_WHOLE = 3;

        final byte[] bytes = new byte[TAPE_ROOM];
        int filled;
        int limit;
        int ahead;
        int kind;
        int start;
        int length;
        int value;

        void put(int number) {
            for (int shift = 24; shift >= 0; shift -= 8) {
                if (filled >= 0 && filled < bytes.length) {
                    bytes[filled] = (byte) (number >>> shift);
                    filled++;
                }
            }
        }

        void begin(int n) {
            limit = n;
            ahead = 0;
            advance();
        }

        int byteAt(int place) {
            return place < 0 || place >= limit || place >= bytes.length ? -1 : bytes[place] & 255;
        }

        void advance() {
            while (ahead < limit && byteAt(ahead) == ' ') {
                ahead++;
            }
            start = ahead;
            kind = kindOf(byteAt(ahead));
            value = 0;
            boolean isRun = kind == WORD || kind == WHOLE;
            while (ahead < limit && (ahead == start || isRun && kindOf(byteAt(ahead)) == kind)) {
                // only a WHOLE's value is ever asked for, and one that is too long has none
                if (kind == WHOLE && ahead - start < LONGEST_WHOLE) {
                    value = value * 10 + byteAt(ahead) - '0';
                }
                ahead++;
            }
            length = ahead - start;
            if (isRun && length > (kind == WORD ? LONGEST_WORD : LONGEST_WHOLE)) {
                kind = STRANGE;
            }
        }

        private static int kindOf(int sign) {
            if (sign < 0) {
                return END;
            }
            if (sign >= 'a' && sign <= 'z') {
                return WORD;
            }
            if (sign >= '0' && sign <= '9') {
                return WHOLE;
            }
            // a comma is a TOKEN, but no LINE has one, so it is as wrong as any other sign
            return sign == ';' ? SEMICOLON : STRANGE;
        }

        boolean isWord(String word) {
            if (kind != WORD || word.length() != length) {
                return false;
            }
            for (int i = 0; i < length; i++) {
                if (byteAt(start + i) != word.charAt(i)) {
                    return false;
                }
            }
            return true;
        }

        /** Whether the present token has the same letters as the bytes told. */
        boolean isLike(int otherStart, int otherLength) {
            if (otherLength != length) {
                return false;
            }
            for (int i = 0; i < length; i++) {
                if (byteAt(start + i) != byteAt(otherStart + i)) {
                    return false;
                }
            }
            return true;
        }
    }

    /** Reads a text from the left; the LINE of the first fault is gone through to its end, but nothing counts. */
    private static final class Reader {
        static final int FORM = 1;
        static final int NO_WAY = 2;
        static final int AGAIN = 3;
        static final int BOUNDS = 4;
        static final int MANY = 5;
        static final int LACKS = 6;
        static final int MOST_NAMES = MOST_WAYS + MOST_SEERS;

        final Tokens tokens = new Tokens();
        private Shop told = new Shop();
        final int[] nameStart = new int[MOST_NAMES];
        final int[] nameLength = new int[MOST_NAMES];
        final int[] nameWay = new int[MOST_NAMES];
        int names;
        int hards;
        int froms;
        int firstFrom;
        int lastFrom;
        boolean hasRod;
        boolean hasLip;
        boolean hasCosts;
        int problem;
        int faultAt;

        /** The fault's number; 0 without one. */
        int read(int n) {
            begin(n);
            for (int line = 0; line <= TAPE_ROOM && problem == 0; line++) {
                if (tokens.isWord("rod")) {
                    readRod();
                } else if (tokens.isWord("lip")) {
                    readLip();
                } else if (tokens.isWord("costs")) {
                    readCosts();
                } else if (tokens.isWord("way")) {
                    readWay();
                } else if (tokens.isWord("hard")) {
                    readHard();
                } else if (tokens.isWord("from")) {
                    readFrom();
                } else if (tokens.isWord("seer")) {
                    readSeer();
                } else {
                    blame(FORM);
                }
                if (problem == 0 && tokens.kind == Tokens.END) {
                    lookForLacks();
                    break;
                }
                if (tokens.kind != Tokens.SEMICOLON) {
                    blame(FORM);
                }
                tokens.advance();
            }
            return problem;
        }

        /** Gives the SHOP read and takes an old one to be read into. */
        Shop exchange(Shop old) {
            Shop read = told;
            told = old;
            return read;
        }

        private void begin(int n) {
            told.empty();
            names = 0;
            hards = 0;
            froms = 0;
            firstFrom = -1;
            lastFrom = -1;
            hasRod = false;
            hasLip = false;
            hasCosts = false;
            problem = 0;
            faultAt = NONE;
            tokens.begin(n);
        }

        private void blame(int number) {
            if (problem == 0) {
                problem = number;
                faultAt = tokens.start;
            }
        }

        private void lookForLacks() {
            if (!hasRod || !hasLip || !hasCosts || firstFrom != 0) {
                blame(LACKS);
            }
        }

        private void readRod() {
            beginLine(hasRod, AGAIN);
            hasRod = true;
            told.inches = takeNumber("inches", 2, MOST_INCHES);
            told.wallThick = takeNumber("wall", 10, 999);
            told.bush = takeNumber("bush", 0, 9);
        }

        private void readLip() {
            beginLine(hasLip, AGAIN);
            hasLip = true;
            told.lip = takeWhole(1, 99);
            told.oil = takeNumber("oil", 0, 50);
            told.room = takeNumber("room", 0, 99);
            told.bears = takeNumber("bears", 10, 999);
        }

        private void readCosts() {
            beginLine(hasCosts, AGAIN);
            hasCosts = true;
            told.costInch = takeNumber("inch", 0, 99);
            told.costLip = takeNumber("lip", 0, 99);
            told.costDraw = takeNumber("draw", 0, 99);
        }

        private void readWay() {
            int way = told.ways;
            beginLine(way >= MOST_WAYS, MANY);
            takeNewName(way);
            int push = takeNumber("push", 0, 99);
            int hold = takeNumber("hold", 0, 100);
            int force = takeNumber("force", 1, 50);
            if (problem == 0 && way >= 0 && way < MOST_WAYS) {
                told.wayPush[way] = push;
                told.wayHold[way] = hold;
                told.wayForce[way] = force;
                told.ways = way + 1;
            }
        }

        private void readHard() {
            beginLine(hards >= MOST_HARD, MANY);
            int inch = takeWhole(0, MOST_INCHES - 1);
            int by = takeNumber("by", 1, 9);
            int side = takeSide();
            if (problem == 0 && inch >= 0 && inch < MOST_INCHES) {
                told.hardBy[inch] = by;
                told.hardSide[inch] = side;
                hards++;
            }
        }

        private void readFrom() {
            beginLine(froms >= MOST_FROMS, MANY);
            int inch = takeWhole(lastFrom + 1, MOST_INCHES - 1);
            int fed = takeNumber("feed", 1, 9);
            takeWord("way");
            int way = takeWayName();
            boolean draw = takeIfWord("draw");
            boolean sharpen = takeIfWord("sharpen");
            if (problem == 0 && inch >= 0 && inch < MOST_INCHES) {
                told.plan.from(inch, fed, way);
                told.plan.draw[inch] = draw;
                told.plan.sharpen[inch] = sharpen;
                firstFrom = froms == 0 ? inch : firstFrom;
                lastFrom = inch;
                froms++;
            }
        }

        private void readSeer() {
            int seer = told.seers;
            beginLine(seer >= MOST_SEERS, MANY);
            takeNewName(NONE);
            int least = takeNumber("sees", 1, 99);
            if (problem == 0 && seer >= 0 && seer < MOST_SEERS) {
                told.seerSees[seer] = least;
                told.seers = seer + 1;
            }
        }

        /** At a LINE's first WORD: goes on behind it, or blames it. */
        private void beginLine(boolean isTooMuch, int number) {
            if (isTooMuch) {
                blame(number);
            }
            tokens.advance();
        }

        private void takeWord(String word) {
            if (!tokens.isWord(word)) {
                blame(FORM);
            }
            tokens.advance();
        }

        private boolean takeIfWord(String word) {
            if (problem != 0 || !tokens.isWord(word)) {
                return false;
            }
            tokens.advance();
            return true;
        }

        private int takeWhole(int low, int high) {
            int value = tokens.value;
            if (tokens.kind != Tokens.WHOLE) {
                blame(FORM);
            } else if (value < low || value > high) {
                blame(BOUNDS);
            }
            tokens.advance();
            return value;
        }

        private int takeNumber(String word, int low, int high) {
            takeWord(word);
            return takeWhole(low, high);
        }

        private int takeSide() {
            int side = 0;
            if (tokens.isWord("right")) {
                side = 0;
            } else if (tokens.isWord("up")) {
                side = 1;
            } else if (tokens.isWord("left")) {
                side = 2;
            } else if (tokens.isWord("down")) {
                side = 3;
            } else {
                blame(FORM);
            }
            tokens.advance();
            return side;
        }

        private void takeNewName(int way) {
            if (!isName()) {
                blame(FORM);
            } else if (findName() >= 0) {
                blame(AGAIN);
            }
            if (problem == 0 && names >= 0 && names < MOST_NAMES) {
                nameStart[names] = tokens.start;
                nameLength[names] = tokens.length;
                nameWay[names] = way;
                names++;
            }
            tokens.advance();
        }

        private int takeWayName() {
            int name = findName();
            int way = name < 0 || name >= MOST_NAMES ? NONE : nameWay[name];
            if (!isName()) {
                blame(FORM);
            } else if (way < 0) {
                blame(NO_WAY);
            }
            tokens.advance();
            return way;
        }

        private boolean isName() {
            return tokens.kind == Tokens.WORD && !tokens.isWord("rod") && !tokens.isWord("lip")
                && !tokens.isWord("costs") && !tokens.isWord("way") && !tokens.isWord("hard")
                && !tokens.isWord("from") && !tokens.isWord("seer") && !tokens.isWord("draw")
                && !tokens.isWord("sharpen");
        }

        private int findName() {
            for (int i = 0; i < names && i < MOST_NAMES; i++) {
                if (tokens.isLike(nameStart[i], nameLength[i])) {
                    return i;
                }
            }
            return NONE;
        }
    }

    /** A drill on its way, from a rod's first INCH on. */
    private static final class Bit {
        int done;
        int x;
        int y;
        int tiltX;
        int tiltY;
        int wear;
        int chips;
        int cost;
        int force;
        int fate;

        void begin(int firstWear, int firstChips) {
            done = 0;
            x = 0;
            y = 0;
            tiltX = 0;
            tiltY = 0;
            wear = firstWear;
            chips = firstChips;
            cost = 0;
            force = 0;
            fate = WHOLE_DRILL;
        }

        void copy(Bit other) {
            done = other.done;
            x = other.x;
            y = other.y;
            tiltX = other.tiltX;
            tiltY = other.tiltY;
            wear = other.wear;
            chips = other.chips;
            cost = other.cost;
            force = other.force;
            fate = other.fate;
        }

        boolean isWhole() {
            return fate == WHOLE_DRILL;
        }

        boolean isNear(int near) {
            return sizeOf(x) <= near && sizeOf(y) <= near;
        }

        /** One INCH, with the hard place told at spot, made harder, and a scatter of the tilt. */
        void advance(Shop shop, int spot, int fed, int harder, int scatter) {
            prepare(shop, fed);
            int hard = shop.hardAt(spot) + harder;
            int way = shop.wayAt(done);
            int growth = fed * 3 - shop.oil;
            chips += growth < 0 ? 0 : growth;
            int crowd = chips > shop.room ? chips - shop.room : 0;
            force = shop.wayForce[way] * fed * (10 + hard) / 10 + wear + 2 * crowd;
            if (force > shop.bears) {
                fate = BROKEN;
                return;
            }
            if (done >= shop.bush) {
                int push = shop.wayPush[way] * (hard + wear / 10 + fed) / 10;
                int side = shop.sideAt(spot);
                int loose = 100 - shop.wayHold[way];
                tiltX = (tiltX + push * sideX(side) + scatter) * loose / 100;
                tiltY = (tiltY + push * sideY(side)) * loose / 100;
            } else {
                tiltX = 0;
                tiltY = 0;
            }
            x += tiltX;
            y += tiltY;
            wear += divided(10 * (hard + 1), shop.lip) + 1;
            done++;
            if (sizeOf(x) >= shop.wallThick || sizeOf(y) >= shop.wallThick) {
                fate = OUT;
            }
        }

        private void prepare(Shop shop, int fed) {
            boolean isPlanned = done >= 0 && done < MOST_INCHES;
            if (isPlanned && shop.plan.sharpen[done]) {
                wear = 0;
                cost += shop.costLip;
            }
            if (isPlanned && shop.plan.draw[done]) {
                chips = 0;
                cost += shop.costDraw;
            }
            cost += divided(shop.costInch, fed) + 1;
        }
    }

    /** The rod on the bench: what is kept of its INCHES done, and the BLOWS it has had. */
    private static final class Hole {
        static final int X = 0;
        static final int Y = 1;
        static final int KINDS = 7;
        static final int FEWEST_INCHES = 3;

        final Bit bit = new Bit();
        final int[][] kept = new int[KINDS][MOST_INCHES];
        final int[] blowInch = new int[MOST_BLOWS];
        final int[] blowSide = new int[MOST_BLOWS];
        final int[] blowBy = new int[MOST_BLOWS];
        int blows;
        boolean isBackward;

        void begin(boolean backward) {
            bit.begin(0, 0);
            blows = 0;
            isBackward = backward;
        }

        boolean isDone(int i) {
            return i >= 0 && i < bit.done && i < MOST_INCHES;
        }

        boolean isLongEnough() {
            return bit.done >= FEWEST_INCHES;
        }

        int fateIn(Shop shop) {
            if (bit.isWhole() && bit.done >= shop.inches) {
                return THROUGH;
            }
            return bit.fate;
        }

        void goOn(Shop shop) {
            int i = bit.done;
            bit.advance(shop, shop.spotOf(i, isBackward), shop.feedFor(i), 0, 0);
            if (bit.done > i && i >= 0 && i < MOST_INCHES) {
                kept[X][i] = bit.x;
                kept[Y][i] = bit.y;
                kept[2][i] = bit.force;
                kept[3][i] = bit.wear;
                kept[4][i] = bit.chips;
                kept[5][i] = bit.tiltX;
                kept[6][i] = bit.tiltY;
            }
        }

        /** The n-th INCH done with a hard place; NONE without one. */
        int hardInch(Shop shop, int n) {
            int seen = 0;
            for (int i = 0; i < bit.done; i++) {
                if (shop.hardAt(shop.spotOf(i, isBackward)) > 0) {
                    if (seen == n) {
                        return i;
                    }
                    seen++;
                }
            }
            return NONE;
        }

        int offTrue(int part, int i) {
            int last = bit.done - 1;
            if (part < X || part > Y || !isDone(i) || last < 1 || last >= MOST_INCHES) {
                return 0;
            }
            int first = kept[part][0];
            return kept[part][i] - first - (kept[part][last] - first) * i / last;
        }

        int offAt(int i) {
            return sizeOf(offTrue(X, i)) + sizeOf(offTrue(Y, i));
        }

        int worstInch() {
            int worst = 0;
            int most = offAt(0);
            for (int i = 1; i < bit.done; i++) {
                int here = offAt(i);
                if (here > most) {
                    worst = i;
                    most = here;
                }
            }
            return worst;
        }

        int sideAt(int i) {
            int offX = offTrue(X, i);
            int offY = offTrue(Y, i);
            if (sizeOf(offX) >= sizeOf(offY)) {
                return offX >= 0 ? 0 : 2;
            }
            return offY >= 0 ? 1 : 3;
        }

        int widestPart() {
            int widest = 0;
            for (int i = 0; i < bit.done; i++) {
                int offX = sizeOf(offTrue(X, i));
                int offY = sizeOf(offTrue(Y, i));
                int wider = offX >= offY ? offX : offY;
                widest = wider > widest ? wider : widest;
            }
            return widest;
        }

        /** How far a BLOW at INCH i by b moves INCH k. */
        int moved(int i, int b, int k) {
            int last = bit.done - 1;
            return k <= i ? divided(b * k, i) : divided(b * (last - k), last - i);
        }

        void strike(int i, int side, int b) {
            if (blows < 0 || blows >= MOST_BLOWS) {
                return;
            }
            blowInch[blows] = i;
            blowSide[blows] = side;
            blowBy[blows] = b;
            blows++;
            for (int k = 0; k < bit.done && k < MOST_INCHES; k++) {
                moveAway(k, side, moved(i, b, k));
            }
        }

        /** Half of each BLOW goes back; how many BLOWS there were. */
        int springBack() {
            int were = blows;
            for (int n = 0; n < were && n < MOST_BLOWS; n++) {
                for (int k = 0; k < bit.done && k < MOST_INCHES; k++) {
                    moveAway(k, blowSide[n], -(moved(blowInch[n], blowBy[n], k) / 2));
                }
            }
            blows = 0;
            return were;
        }

        private void moveAway(int k, int side, int far) {
            if (isDone(k)) {
                kept[X][k] -= far * sideX(side);
                kept[Y][k] -= far * sideY(side);
            }
        }
    }

    /** Goes through all scatters, and through all feeds, INCH by INCH. */
    private static final class Search {
        final Bit[] line = new Bit[MOST_ODDS_INCHES + 1];
        final int[] tried = new int[MOST_CHEAP_INCHES];
        final int[] best = new int[MOST_CHEAP_INCHES];
        int bestCost;
        int bestCount;
        private int least;
        private boolean isFound;

        Search() {
            for (int i = 0; i < line.length; i++) {
                line[i] = new Bit();
            }
        }

        void drop() {
            bestCount = 0;
            bestCost = 0;
        }

        int countOdds(Shop shop, int n, int near) {
            if (n < 1 || n > MOST_ODDS_INCHES) {
                return 0;
            }
            line[0].begin(0, 0);
            return oddsBehind(shop, 0, n, near);
        }

        private int oddsBehind(Shop shop, int depth, int n, int near) {
            if (depth < 0 || depth >= MOST_ODDS_INCHES || depth >= n) {
                return 0;
            }
            int widest = depth >= shop.bush ? 1 : 0;
            int sum = 0;
            for (int scatter = -widest; scatter <= widest; scatter++) {
                Bit bit = line[depth + 1];
                bit.copy(line[depth]);
                bit.advance(shop, depth, shop.feedFor(depth), 0, scatter);
                int times = widest == 1 && scatter == 0 ? 2 : 1;
                if (!bit.isWhole()) {
                    continue;
                }
                if (depth + 1 < n) {
                    sum += times * oddsBehind(shop, depth + 1, n, near);
                } else if (bit.isNear(near)) {
                    sum += times;
                }
            }
            return sum;
        }

        /** False if no feeds fit: what was found before then stays. */
        boolean findCheapest(Shop shop, int n, int near) {
            if (n < 1 || n > MOST_CHEAP_INCHES) {
                return false;
            }
            isFound = false;
            least = 0;
            line[0].begin(0, 0);
            feedsBehind(shop, 0, n, near);
            return isFound;
        }

        private void feedsBehind(Shop shop, int depth, int n, int near) {
            if (depth < 0 || depth >= MOST_CHEAP_INCHES || depth >= n) {
                return;
            }
            for (int fed = 1; fed <= MOST_CHEAP_FEED; fed++) {
                Bit bit = line[depth + 1];
                bit.copy(line[depth]);
                bit.advance(shop, depth, fed, 0, 0);
                tried[depth] = fed;
                // costs only grow, and rows come in rising order: only a cheaper row can be better
                if (!bit.isWhole() || isFound && bit.cost >= least) {
                    continue;
                }
                if (depth + 1 < n) {
                    feedsBehind(shop, depth + 1, n, near);
                } else if (bit.isNear(near)) {
                    keep(n, bit.cost);
                }
            }
        }

        private void keep(int n, int cost) {
            isFound = true;
            least = cost;
            bestCost = cost;
            bestCount = n;
            for (int i = 0; i < n && i < MOST_CHEAP_INCHES; i++) {
                best[i] = tried[i];
            }
        }
    }

    /** Holes from the front and from behind, to see where they come nearest. */
    private static final class Ends {
        final Bit bit = new Bit();
        final int[] frontX = new int[MOST_INCHES];
        final int[] frontY = new int[MOST_INCHES];
        final int[] backX = new int[MOST_INCHES];
        final int[] backY = new int[MOST_INCHES];
        int frontDone;
        int backDone;

        void goBothWays(Shop shop) {
            frontDone = goThrough(shop, false, frontX, frontY);
            backDone = goThrough(shop, true, backX, backY);
        }

        private int goThrough(Shop shop, boolean backward, int[] xs, int[] ys) {
            bit.begin(0, 0);
            for (int i = 0; i < shop.inches && i < MOST_INCHES && bit.isWhole(); i++) {
                bit.advance(shop, shop.spotOf(i, backward), shop.feedFor(i), 0, 0);
                if (bit.done > i && i < xs.length && i < ys.length) {
                    xs[i] = bit.x;
                    ys[i] = bit.y;
                }
            }
            return bit.done;
        }

        /** NONE if one of the two doesn't come as far. */
        int apartAt(Shop shop, int m) {
            int front = m - 1;
            int back = shop.inches - m - 1;
            if (front < 0 || back < 0 || front >= frontDone || back >= backDone
                || front >= MOST_INCHES || back >= MOST_INCHES) {
                return NONE;
            }
            return sizeOf(frontX[front] - backX[back]) + sizeOf(frontY[front] - backY[back]);
        }

        int nearest(Shop shop) {
            int nearest = NONE;
            int least = 0;
            for (int m = 1; m < shop.inches; m++) {
                int apart = apartAt(shop, m);
                if (apart >= 0 && (nearest < 0 || apart < least)) {
                    nearest = m;
                    least = apart;
                }
            }
            return nearest;
        }
    }

    /** The FORCES felt, and all CAUSES that fit them. */
    private static final class Needle {
        static final int KINDS = 3;
        static final int WEARS = 4;
        static final int CHIP_SORTS = 2;
        static final int HARDER_BY = 3;
        static final int NO_INCH = -2;
        static final int NOT_ALIKE = -3;
        static final int MOST_CAUSES = WEARS * CHIP_SORTS * (MOST_INCHES + 1);

        final Bit bit = new Bit();
        final int[] feltInch = new int[MOST_FELT];
        final int[] feltForce = new int[MOST_FELT];
        final int[][] found = new int[KINDS][MOST_CAUSES];
        int count;
        int fitting;
        private boolean isFresh;

        void drop() {
            count = 0;
            isFresh = false;
        }

        void add(int i, int force) {
            if (count >= 0 && count < MOST_FELT) {
                feltInch[count] = i;
                feltForce[count] = force;
                count++;
                isFresh = false;
            }
        }

        /** Goes through all causes, unless nothing has changed since. */
        void search(Shop shop) {
            if (isFresh) {
                return;
            }
            fitting = 0;
            for (int wear = 0; wear < WEARS; wear++) {
                for (int chips = 0; chips < CHIP_SORTS; chips++) {
                    tryCause(shop, wear * 10, chips * 9, NO_INCH);
                    for (int i = 0; i < shop.inches; i++) {
                        tryCause(shop, wear * 10, chips * 9, i);
                    }
                }
            }
            isFresh = true;
        }

        private void tryCause(Shop shop, int wear, int chips, int harder) {
            if (fitting < 0 || fitting >= MOST_CAUSES || !fits(shop, wear, chips, harder)) {
                return;
            }
            found[0][fitting] = wear;
            found[1][fitting] = chips;
            found[2][fitting] = harder;
            fitting++;
        }

        private boolean fits(Shop shop, int wear, int chips, int harder) {
            bit.begin(wear, chips);
            int end = behindLastFelt();
            for (int i = 0; i < end; i++) {
                if (!bit.isWhole()) {
                    return false;
                }
                bit.advance(shop, i, shop.feedFor(i), i == harder ? HARDER_BY : 0, 0);
                if (!agrees(i, bit.force)) {
                    return false;
                }
            }
            return true;
        }

        private int behindLastFelt() {
            int end = 0;
            for (int n = 0; n < count && n < MOST_FELT; n++) {
                end = feltInch[n] >= end ? feltInch[n] + 1 : end;
            }
            return end < MOST_INCHES ? end : MOST_INCHES;
        }

        private boolean agrees(int i, int force) {
            for (int n = 0; n < count && n < MOST_FELT; n++) {
                if (feltInch[n] == i && feltForce[n] != force) {
                    return false;
                }
            }
            return true;
        }

        int alike(int what) {
            if (what < 0 || what >= KINDS) {
                return NOT_ALIKE;
            }
            for (int i = 1; i < fitting && i < MOST_CAUSES; i++) {
                if (found[what][i] != found[what][0]) {
                    return NOT_ALIKE;
                }
            }
            return found[what][0];
        }
    }

    /** Looks for the fewest BLOWS; a BLOW never moves the ends, so TRUE stays and OFFS move as PLACES do. */
    private static final class Bench {
        static final int NO_BLOW = -1;

        final int[] offX = new int[MOST_INCHES];
        final int[] offY = new int[MOST_INCHES];
        final int[][] moves = new int[MOST_INCHES][MOST_INCHES];
        final int[] strokes = new int[2];
        int strokeCount;
        private int last;

        void drop() {
            strokeCount = 0;
        }

        /** False if two BLOWS don't do: what was found before then stays. */
        boolean findFewest(Hole hole, int b, int t) {
            prepare(hole, b);
            if (isStraight(NO_BLOW, NO_BLOW, t)) {
                strokeCount = 0;
                return true;
            }
            return findOne(t) || findTwo(t);
        }

        private void prepare(Hole hole, int b) {
            last = hole.bit.done - 1;
            for (int k = 0; k <= last && k < MOST_INCHES; k++) {
                offX[k] = hole.offTrue(Hole.X, k);
                offY[k] = hole.offTrue(Hole.Y, k);
                for (int i = 1; i < last && i < MOST_INCHES; i++) {
                    moves[i][k] = hole.moved(i, b, k);
                }
            }
        }

        private boolean findOne(int t) {
            for (int one = SIDES; one < last * SIDES; one++) {
                if (isStraight(one, NO_BLOW, t)) {
                    strokes[0] = told(one);
                    strokeCount = 1;
                    return true;
                }
            }
            return false;
        }

        private boolean findTwo(int t) {
            for (int one = SIDES; one < last * SIDES; one++) {
                // two BLOWS do the same either way round, so the second is none ahead of the first
                for (int two = one; two < last * SIDES; two++) {
                    if (isStraight(one, two, t)) {
                        strokes[0] = told(one);
                        strokes[1] = told(two);
                        strokeCount = 2;
                        return true;
                    }
                }
            }
            return false;
        }

        private static int told(int blow) {
            return 10 * (blow / SIDES) + blow % SIDES;
        }

        /** A BLOW is told as its INCH times the sides and its side. */
        private boolean isStraight(int one, int two, int t) {
            for (int k = 0; k <= last && k < MOST_INCHES; k++) {
                int first = moveBy(one, k);
                int second = moveBy(two, k);
                int x = offX[k] - first * sideX(one % SIDES) - second * sideX(two % SIDES);
                int y = offY[k] - first * sideY(one % SIDES) - second * sideY(two % SIDES);
                if (sizeOf(x) + sizeOf(y) > t) {
                    return false;
                }
            }
            return true;
        }

        private int moveBy(int blow, int k) {
            int i = blow < 0 ? 0 : blow / SIDES;
            return i < 1 || i >= MOST_INCHES ? 0 : moves[i][k];
        }
    }

    /** Spans of x measured at INCHES, and how far they can be narrowed. */
    private static final class Walls {
        static final int UNKNOWN = -1;
        static final int MOST_ROUNDS = 100000;

        final boolean[] isTold = new boolean[MOST_INCHES];
        final int[] toldLow = new int[MOST_INCHES];
        final int[] toldHigh = new int[MOST_INCHES];
        final int[] spanLow = new int[MOST_INCHES];
        final int[] spanHigh = new int[MOST_INCHES];
        private int narrowedBy = UNKNOWN;
        private boolean isPossible;
        private boolean isChanged;

        void drop() {
            for (int i = 0; i < MOST_INCHES; i++) {
                isTold[i] = false;
            }
            narrowedBy = UNKNOWN;
        }

        void tell(int i, int low, int high) {
            if (i >= 0 && i < MOST_INCHES) {
                isTold[i] = true;
                toldLow[i] = low;
                toldHigh[i] = high;
                narrowedBy = UNKNOWN;
            }
        }

        int howMany() {
            int many = 0;
            for (int i = 0; i < MOST_INCHES; i++) {
                many += isTold[i] ? 1 : 0;
            }
            return many;
        }

        /** False if some span is empty; the spans of the latest k are kept till walls change. */
        boolean narrow(Shop shop, int k) {
            if (narrowedBy == k) {
                return isPossible;
            }
            narrowedBy = k;
            isPossible = true;
            for (int i = 0; i < MOST_INCHES; i++) {
                spanLow[i] = isTold[i] ? toldLow[i] : -shop.wallThick;
                spanHigh[i] = isTold[i] ? toldHigh[i] : shop.wallThick;
            }
            isChanged = true;
            for (int round = 0; round < MOST_ROUNDS && isChanged && isPossible; round++) {
                isChanged = false;
                for (int i = 1; i < shop.inches - 1 && i < MOST_INCHES - 1; i++) {
                    narrowThree(i, k);
                }
            }
            return isPossible;
        }

        private void narrowThree(int i, int k) {
            if (i < 1 || i >= MOST_INCHES - 1) {
                return;
            }
            int a = i - 1;
            int c = i + 1;
            int twiceLow = spanLow[a] + spanLow[c] - k;
            int twiceHigh = spanHigh[a] + spanHigh[c] + k;
            cut(i, -Math.floorDiv(-twiceLow, 2), Math.floorDiv(twiceHigh, 2));
            cut(a, 2 * spanLow[i] - spanHigh[c] - k, 2 * spanHigh[i] - spanLow[c] + k);
            cut(c, 2 * spanLow[i] - spanHigh[a] - k, 2 * spanHigh[i] - spanLow[a] + k);
        }

        private void cut(int i, int low, int high) {
            if (!isPossible || i < 0 || i >= MOST_INCHES) {
                return;
            }
            if (low > spanLow[i]) {
                spanLow[i] = low;
                isChanged = true;
            }
            if (high < spanHigh[i]) {
                spanHigh[i] = high;
                isChanged = true;
            }
            isPossible = spanLow[i] <= spanHigh[i];
        }

        int widestInch(Shop shop) {
            int widest = 0;
            for (int i = 1; i < shop.inches && i < MOST_INCHES; i++) {
                if (spanHigh[i] - spanLow[i] > spanHigh[widest] - spanLow[widest]) {
                    widest = i;
                }
            }
            return widest;
        }
    }
}
