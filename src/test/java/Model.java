import java.util.ArrayList;
import java.util.HashMap;
import java.util.HashSet;
import java.util.List;
import java.util.Map;
import java.util.NoSuchElementException;
import java.util.Set;
import java.util.TreeMap;
import java.util.regex.Matcher;
import java.util.regex.Pattern;

/** The document written a second time, slowly and from its words, to hold DeepHole against. */
final class Model {
    private static final int NOWHERE = -1000000;
    private static final Set<String> NO_NAMES =
        Set.of("rod", "lip", "costs", "way", "hard", "from", "seer", "draw", "sharpen");
    private static final Map<String, String> LINES = new HashMap<>();

    static {
        LINES.put("rod", "rod inches 2-30 wall 10-999 bush 0-9");
        LINES.put("lip", "lip 1-99 oil 0-50 room 0-99 bears 10-999");
        LINES.put("costs", "costs inch 0-99 lip 0-99 draw 0-99");
        LINES.put("way", "way NEW push 0-99 hold 0-100 force 1-50");
        LINES.put("hard", "hard 0-29 by 1-9 SIDE");
        LINES.put("from", "from RISING feed 1-9 way OLD ?draw ?sharpen");
        LINES.put("seer", "seer NEW sees 1-99");
    }

    private static final Map<String, Integer> ROOM =
        Map.of("rod", 1, "lip", 1, "costs", 1, "way", 4, "hard", 10, "from", 8, "seer", 4);

    /** A text read: its LINES as lists of their words and numbers. */
    private static final class Told {
        final List<List<String>> lines = new ArrayList<>();
        final Map<String, Integer> ways = new HashMap<>();
        int fault = 0;
        int place = -1;

        List<List<String>> of(String sort) {
            List<List<String>> all = new ArrayList<>();
            for (List<String> line : lines) {
                if (line.get(0).equals(sort)) {
                    all.add(line);
                }
            }
            return all;
        }

        int number(String sort, int n) {
            return Integer.parseInt(of(sort).get(0).get(n));
        }
    }

    /** One going of a drill. */
    private static final class Going {
        final List<int[]> inches = new ArrayList<>();
        int x, y, tx, ty, wear, chips, cost, brokeAt;
        boolean broken, out;
    }

    private final StringBuilder tape = new StringBuilder();
    private Told told = null;
    private int fault = 0;
    private int place = -1;
    private int trouble = 0;
    private Going going = new Going();
    private boolean backward = false;
    private List<int[]> blows = new ArrayList<>();
    private final List<int[]> felt = new ArrayList<>();
    private final TreeMap<Integer, int[]> walls = new TreeMap<>();
    private int[] feeds = new int[0];
    private List<Integer> strokes = new ArrayList<>();

    // ---- the text

    private static Told read(String text) {
        Told t = new Told();
        List<String> tokens = new ArrayList<>();
        List<Integer> places = new ArrayList<>();
        Matcher m = Pattern.compile("[a-z]+|[0-9]+|[^ ]", Pattern.DOTALL).matcher(text);
        while (m.find()) {
            tokens.add(m.group());
            places.add(m.start());
        }
        tokens.add("");
        places.add(text.length());
        TreeMap<Integer, Integer> faults = new TreeMap<>();
        Set<String> names = new HashSet<>();
        Map<String, Integer> counts = new HashMap<>();
        int at = 0;
        int latest = -1;
        boolean goes = true;
        while (goes) {
            String sort = tokens.get(at);
            String form = LINES.get(sort);
            if (form == null) {
                faults.merge(places.get(at), 1, Math::min);
                break;
            }
            int nth = counts.merge(sort, 1, Integer::sum);
            if (nth > ROOM.get(sort)) {
                faults.merge(places.get(at), ROOM.get(sort) == 1 ? 3 : 5, Math::min);
            }
            List<String> line = new ArrayList<>();
            for (String part : form.split(" ")) {
                String token = tokens.get(at);
                int where = places.get(at);
                boolean isWord = token.matches("[a-z]{1,8}");
                boolean isWhole = token.matches("[0-9]{1,3}");
                boolean isForm = true;
                if (part.startsWith("?")) {
                    boolean is = token.equals(part.substring(1));
                    line.add(is ? "1" : "0");
                    at += is ? 1 : 0;
                    continue;
                } else if (part.equals("NEW") || part.equals("OLD")) {
                    isForm = isWord && !NO_NAMES.contains(token);
                    if (isForm && part.equals("NEW") && !names.add(token)) {
                        faults.merge(where, 3, Math::min);
                    } else if (isForm && part.equals("NEW") && sort.equals("way")) {
                        t.ways.put(token, t.ways.size());
                    } else if (isForm && part.equals("OLD") && !t.ways.containsKey(token)) {
                        faults.merge(where, 2, Math::min);
                    }
                } else if (part.equals("SIDE")) {
                    isForm = token.matches("right|up|left|down");
                } else if (part.equals("RISING")) {
                    isForm = isWhole;
                    if (isForm && (Integer.parseInt(token) <= latest || Integer.parseInt(token) > 29)) {
                        faults.merge(where, 4, Math::min);
                    }
                    latest = isForm ? Integer.parseInt(token) : latest;
                } else if (part.contains("-")) {
                    String[] bounds = part.split("-");
                    isForm = isWhole;
                    if (isForm && (Integer.parseInt(token) < Integer.parseInt(bounds[0])
                        || Integer.parseInt(token) > Integer.parseInt(bounds[1]))) {
                        faults.merge(where, 4, Math::min);
                    }
                } else {
                    isForm = token.equals(part);
                }
                if (!isForm) {
                    faults.merge(where, 1, Math::min);
                    goes = false;
                    break;
                }
                line.add(token);
                at++;
            }
            t.lines.add(line);
            if (goes && tokens.get(at).isEmpty()) {
                if (t.of("rod").isEmpty() || t.of("lip").isEmpty() || t.of("costs").isEmpty()
                    || t.of("from").isEmpty() || !t.of("from").get(0).get(1).matches("0+")) {
                    faults.merge(text.length(), 6, Math::min);
                }
                break;
            } else if (goes && !tokens.get(at).equals(";")) {
                faults.merge(places.get(at), 1, Math::min);
                break;
            }
            at++;
        }
        if (!faults.isEmpty()) {
            t.place = faults.firstKey();
            t.fault = faults.get(t.place);
        }
        return t;
    }

    // ---- the INCH

    private int inches() {
        return told.number("rod", 2);
    }

    private int wallOf() {
        return told.number("rod", 4);
    }

    private int bush() {
        return told.number("rod", 6);
    }

    private List<String> hardLine(int i, boolean back) {
        int spot = back ? inches() - 1 - i : i;
        List<String> found = null;
        for (List<String> line : told.of("hard")) {
            if (Integer.parseInt(line.get(1)) == spot) {
                found = line;
            }
        }
        return found;
    }

    private static int vector(String side, boolean isY) {
        switch (side) {
            case "right": return isY ? 0 : 1;
            case "left": return isY ? 0 : -1;
            case "up": return isY ? 1 : 0;
            default: return isY ? -1 : 0;
        }
    }

    /** Another INCH of a going; a feed of 0 is that of the plan. */
    private void inchOf(Going g, boolean back, int feedTold, int scatter, int harderInch) {
        int i = g.inches.size();
        List<String> from = null;
        for (List<String> line : told.of("from")) {
            if (Integer.parseInt(line.get(1)) <= i) {
                from = line;
            }
        }
        boolean own = Integer.parseInt(from.get(1)) == i;
        int feed = feedTold == 0 ? Integer.parseInt(from.get(3)) : feedTold;
        List<String> way = told.of("way").get(told.ways.get(from.get(5)));
        if (own && from.get(7).equals("1")) {
            g.wear = 0;
            g.cost += told.number("costs", 4);
        }
        if (own && from.get(6).equals("1")) {
            g.chips = 0;
            g.cost += told.number("costs", 6);
        }
        g.cost += told.number("costs", 2) / feed + 1;
        g.chips += Math.max(0, feed * 3 - told.number("lip", 3));
        List<String> line = hardLine(i, back);
        int hard = (line == null ? 0 : Integer.parseInt(line.get(3))) + (harderInch == i ? 3 : 0);
        String side = line == null ? "right" : line.get(4);
        int force = Integer.parseInt(way.get(7)) * feed * (10 + hard) / 10 + g.wear
            + 2 * Math.max(0, g.chips - told.number("lip", 5));
        if (force > told.number("lip", 7)) {
            g.broken = true;
            g.brokeAt = force;
            return;
        }
        if (i < bush()) {
            g.tx = 0;
            g.ty = 0;
        } else {
            int push = Integer.parseInt(way.get(3)) * (hard + g.wear / 10 + feed) / 10;
            int left = 100 - Integer.parseInt(way.get(5));
            g.tx = (g.tx + vector(side, false) * push + scatter) * left / 100;
            g.ty = (g.ty + vector(side, true) * push) * left / 100;
        }
        g.x += g.tx;
        g.y += g.ty;
        g.wear += 10 * (hard + 1) / told.number("lip", 1) + 1;
        g.out = Math.abs(g.x) >= wallOf() || Math.abs(g.y) >= wallOf();
        g.inches.add(new int[] {g.x, g.y, force, g.wear, g.chips, g.tx, g.ty});
    }

    private Going through(boolean back, int wear, int chips, int harderInch) {
        Going g = new Going();
        g.wear = wear;
        g.chips = chips;
        while (!g.broken && !g.out && g.inches.size() < inches()) {
            inchOf(g, back, 0, 0, harderInch);
        }
        return g;
    }

    // ---- the face

    private int no(int number) {
        trouble = number;
        return -1;
    }

    private int nowhere(int number) {
        trouble = number;
        return NOWHERE;
    }

    private int yes(int answer) {
        trouble = 0;
        return answer;
    }

    int feed(int... numbers) {
        if (tape.length() + 20 > 700) {
            return -1;
        }
        for (int n : numbers) {
            tape.append((char) (n >> 24 & 255)).append((char) (n >> 16 & 255));
            tape.append((char) (n >> 8 & 255)).append((char) (n & 255));
        }
        return tape.length();
    }

    int shop(int n) {
        if (n < 0 || n > tape.length()) {
            return no(2);
        }
        Told t = read(tape.substring(0, n));
        tape.setLength(0);
        fault = t.fault;
        place = t.place;
        if (fault != 0) {
            return no(4);
        }
        told = t;
        rod(false);
        felt.clear();
        walls.clear();
        feeds = new int[0];
        strokes = new ArrayList<>();
        return yes(t.ways.size());
    }

    int fault() {
        return fault;
    }

    int where() {
        return trouble == 4 ? place : -1;
    }

    boolean rod(boolean back) {
        if (told == null) {
            return no(1) == 0;
        }
        going = new Going();
        blows = new ArrayList<>();
        backward = back;
        return yes(0) == 0;
    }

    private int done() {
        return going.inches.size();
    }

    int drill(int n) {
        if (told == null) {
            return no(1);
        }
        if (n < 1 || n > 30) {
            return no(2);
        }
        if (state(2) != 0 || !blows.isEmpty()) {
            return no(5);
        }
        int before = done();
        for (int i = 0; i < n && state(2) == 0; i++) {
            inchOf(going, backward, 0, 0, -2);
        }
        return yes(done() - before);
    }

    int inch(int i, int what) {
        if (told == null || i < 0 || i >= done() || what < 0 || what > 6) {
            return nowhere(1);
        }
        return yes(going.inches.get(i)[what]);
    }

    int state(int what) {
        if (what < 0 || what > 10) {
            return -1;
        }
        if (what == 5) {
            return tape.length();
        }
        if (told == null) {
            return 0;
        }
        int fate = going.broken ? 1 : going.out ? 2 : done() == inches() ? 3 : 0;
        int[] all = {done(), going.cost, fate, blows.size(), felt.size(), 0, inches(), wallOf(),
            told.ways.size(), told.of("seer").size(), going.brokeAt};
        return all[what];
    }

    int odds(int n, int near) {
        if (told == null) {
            return no(1);
        }
        if (n < 1 || n > 9 || n > inches() || near < 0 || near > 999) {
            return no(2);
        }
        int free = Math.max(0, n - bush());
        int sum = 0;
        for (int row = 0; row < Math.pow(3, free); row++) {
            Going g = new Going();
            int weight = 1;
            int rest = row;
            while (g.inches.size() < n && !g.broken && !g.out) {
                int scatter = 0;
                if (g.inches.size() >= bush()) {
                    scatter = rest % 3 - 1;
                    rest /= 3;
                    weight *= scatter == 0 ? 2 : 1;
                }
                inchOf(g, false, 0, scatter, -2);
            }
            if (!g.broken && !g.out && Math.abs(g.x) <= near && Math.abs(g.y) <= near) {
                sum += weight;
            }
        }
        return yes(sum);
    }

    int rows(int n) {
        if (told == null) {
            return no(1);
        }
        if (n < 1 || n > 9 || n > inches()) {
            return no(2);
        }
        return yes((int) Math.pow(4, Math.max(0, n - bush())));
    }

    int cheapest(int n, int near) {
        if (told == null) {
            return no(1);
        }
        if (n < 1 || n > 7 || n > inches() || near < 0 || near > 999) {
            return no(2);
        }
        int[] best = null;
        int least = Integer.MAX_VALUE;
        for (int row = 0; row < Math.pow(4, n); row++) {
            int[] tried = new int[n];
            for (int i = n - 1, rest = row; i >= 0; i--, rest /= 4) {
                tried[i] = rest % 4 + 1;
            }
            Going g = new Going();
            while (g.inches.size() < n && !g.broken && !g.out) {
                inchOf(g, false, tried[g.inches.size()], 0, -2);
            }
            if (!g.broken && !g.out && Math.abs(g.x) <= near && Math.abs(g.y) <= near && g.cost < least) {
                least = g.cost;
                best = tried;
            }
        }
        if (best == null) {
            return no(6);
        }
        feeds = best;
        return yes(least);
    }

    int feedAt(int i) {
        return i < 0 || i >= feeds.length ? -1 : feeds[i];
    }

    private int apart(int m) {
        List<int[]> front = through(false, 0, 0, -2).inches;
        List<int[]> back = through(true, 0, 0, -2).inches;
        if (front.size() < m || back.size() < inches() - m) {
            return -1;
        }
        int[] a = front.get(m - 1);
        int[] b = back.get(inches() - m - 1);
        return Math.abs(a[0] - b[0]) + Math.abs(a[1] - b[1]);
    }

    int met(int m) {
        if (told == null) {
            return no(1);
        }
        if (m < 1 || m > inches() - 1) {
            return no(2);
        }
        int apart = apart(m);
        return apart < 0 ? no(6) : yes(apart);
    }

    int meet() {
        if (told == null) {
            return no(1);
        }
        int best = -1;
        for (int m = inches() - 1; m >= 1; m--) {
            int here = apart(m);
            if (here >= 0 && (best < 0 || here <= apart(best))) {
                best = m;
            }
        }
        return best < 0 ? no(6) : yes(best);
    }

    int felt(int i, int force) {
        if (told == null || i < 0 || i >= inches()) {
            return no(1);
        }
        if (force < 0 || force > 9999) {
            return no(2);
        }
        if (felt.size() == 12) {
            return no(3);
        }
        felt.add(new int[] {i, force});
        return yes(felt.size());
    }

    int forget() {
        int were = felt.size();
        felt.clear();
        return were;
    }

    private List<int[]> allCauses() {
        List<int[]> all = new ArrayList<>();
        for (int row = 0; row < 8 * (inches() + 1); row++) {
            int harder = row % (inches() + 1) - 1;
            int chips = row / (inches() + 1) % 2 * 9;
            int wear = row / (inches() + 1) / 2 * 10;
            Going g = through(false, wear, chips, harder);
            boolean fits = true;
            for (int[] f : felt) {
                int force = f[0] < g.inches.size() ? g.inches.get(f[0])[2]
                    : f[0] == g.inches.size() && g.broken ? g.brokeAt : -1;
                fits &= force == f[1];
            }
            if (fits) {
                all.add(new int[] {wear, chips, harder < 0 ? -2 : harder});
            }
        }
        return all;
    }

    int causes() {
        return told == null ? no(1) : yes(allCauses().size());
    }

    int cause(int i, int what) {
        if (told == null || what < 0 || what > 2 || i < 0 || i >= allCauses().size()) {
            return no(1);
        }
        return yes(allCauses().get(i)[what]);
    }

    int sure(int what) {
        if (told == null || what < 0 || what > 2) {
            return no(1);
        }
        Set<Integer> values = new HashSet<>();
        for (int[] c : allCauses()) {
            values.add(c[what]);
        }
        if (values.isEmpty()) {
            return no(6);
        }
        return yes(values.size() > 1 ? -3 : values.iterator().next());
    }

    private static int[][] offs(List<int[]> places) {
        int many = places.size();
        int[][] all = new int[many][2];
        for (int i = 0; i < many; i++) {
            for (int part = 0; part < 2; part++) {
                int first = places.get(0)[part];
                int last = places.get(many - 1)[part];
                all[i][part] = places.get(i)[part] - (first + (last - first) * i / (many - 1));
            }
        }
        return all;
    }

    private static int together(int[] off) {
        return Math.abs(off[0]) + Math.abs(off[1]);
    }

    int off(int i, boolean isY) {
        if (told == null || i < 0 || i >= done()) {
            return nowhere(1);
        }
        if (done() < 3) {
            return nowhere(5);
        }
        return yes(offs(going.inches)[i][isY ? 1 : 0]);
    }

    int ring(int what) {
        if (told == null || what < 0 || what > 2) {
            return no(1);
        }
        if (done() < 3) {
            return no(5);
        }
        int[][] all = offs(going.inches);
        int worst = 0;
        for (int i = 0; i < done(); i++) {
            worst = together(all[i]) > together(all[worst]) ? i : worst;
        }
        int x = all[worst][0];
        int y = all[worst][1];
        int side = Math.abs(x) >= Math.abs(y) ? (x < 0 ? 2 : 0) : (y < 0 ? 3 : 1);
        return yes(what == 0 ? worst : what == 1 ? together(all[worst]) : side);
    }

    int sees(int seer) {
        if (told == null || seer < 0 || seer >= told.of("seer").size()) {
            return no(1);
        }
        if (done() < 3) {
            return no(5);
        }
        return yes(ring(1) >= Integer.parseInt(told.of("seer").get(seer).get(3)) ? 1 : 0);
    }

    private static int move(int i, int b, int k, int last) {
        return k <= i ? b * k / i : b * (last - k) / (last - i);
    }

    private static List<int[]> struck(List<int[]> places, int i, int side, int b, boolean isHeat) {
        List<int[]> moved = new ArrayList<>();
        for (int k = 0; k < places.size(); k++) {
            int[] p = places.get(k).clone();
            int far = move(i, b, k, places.size() - 1);
            far = isHeat ? -(far / 2) : far;
            p[side % 2] += side < 2 ? -far : far;
            moved.add(p);
        }
        return moved;
    }

    int blow(int i, int side, int b) {
        if (told == null || side < 0 || side > 3) {
            return no(1);
        }
        if (done() < 3) {
            return no(5);
        }
        if (i < 1 || i > done() - 2) {
            return no(1);
        }
        if (b < 1 || b > 99) {
            return no(2);
        }
        if (blows.size() == 20) {
            return no(3);
        }
        blows.add(new int[] {i, side, b});
        replace(struck(going.inches, i, side, b, false));
        return yes(blows.size());
    }

    private void replace(List<int[]> places) {
        going.inches.clear();
        going.inches.addAll(places);
    }

    private static boolean straight(List<int[]> places, int t) {
        for (int[] off : offs(places)) {
            if (together(off) > t) {
                return false;
            }
        }
        return true;
    }

    int fewest(int b, int t) {
        if (told == null) {
            return no(1);
        }
        if (b < 1 || b > 99 || t < 0 || t > 999) {
            return no(2);
        }
        if (done() < 3) {
            return no(5);
        }
        if (straight(going.inches, t)) {
            strokes = new ArrayList<>();
            return yes(0);
        }
        int end = 4 * (done() - 1);
        for (int a = 4; a < end; a++) {
            if (straight(struck(going.inches, a / 4, a % 4, b, false), t)) {
                strokes = new ArrayList<>(List.of(a / 4 * 10 + a % 4));
                return yes(1);
            }
        }
        for (int a = 4; a < end; a++) {
            List<int[]> once = struck(going.inches, a / 4, a % 4, b, false);
            for (int c = 4; c < end; c++) {
                if (straight(struck(once, c / 4, c % 4, b, false), t)) {
                    strokes = new ArrayList<>(List.of(a / 4 * 10 + a % 4, c / 4 * 10 + c % 4));
                    return yes(2);
                }
            }
        }
        return no(6);
    }

    int stroke(int i) {
        return i < 0 || i >= strokes.size() ? -1 : strokes.get(i);
    }

    int heat() {
        if (told == null) {
            return no(1);
        }
        int were = blows.size();
        for (int[] b : blows) {
            replace(struck(going.inches, b[0], b[1], b[2], true));
        }
        blows = new ArrayList<>();
        return yes(were);
    }

    int about() {
        if (told == null) {
            return no(1);
        }
        if (done() < 3) {
            return no(5);
        }
        int most = 0;
        for (int[] off : offs(going.inches)) {
            most = Math.max(most, Math.max(Math.abs(off[0]), Math.abs(off[1])));
        }
        return yes(wallOf() - most);
    }

    boolean wall(int i, int low, int high) {
        if (told == null || i < 0 || i >= inches()) {
            return no(1) == 0;
        }
        if (low < -999 || low > 999 || high < -999 || high > 999 || low > high) {
            return no(2) == 0;
        }
        walls.put(i, new int[] {low, high});
        return yes(0) == 0;
    }

    int clear() {
        int were = walls.size();
        walls.clear();
        return were;
    }

    /** Null if one is empty; leaves out single numbers at the ends, from behind, till none goes. */
    private int[][] spans(int k) {
        int many = inches();
        int[][] s = new int[many][];
        for (int i = 0; i < many; i++) {
            s[i] = walls.containsKey(i) ? walls.get(i).clone() : new int[] {-wallOf(), wallOf()};
        }
        boolean goes = true;
        while (goes) {
            goes = false;
            for (int i = many - 1; i >= 0; i--) {
                while (s[i][0] <= s[i][1] && !canBe(s, i, s[i][0], k)) {
                    s[i][0]++;
                    goes = true;
                }
                while (s[i][0] <= s[i][1] && !canBe(s, i, s[i][1], k)) {
                    s[i][1]--;
                    goes = true;
                }
                if (s[i][0] > s[i][1]) {
                    return null;
                }
            }
        }
        return s;
    }

    private static boolean canBe(int[][] s, int i, int x, int k) {
        boolean can = true;
        if (i >= 1 && i < s.length - 1) {
            can = 2 * x >= s[i - 1][0] + s[i + 1][0] - k && 2 * x <= s[i - 1][1] + s[i + 1][1] + k;
        }
        for (int step = -1; step <= 1; step += 2) {
            int mid = i + step;
            int far = i + 2 * step;
            if (far >= 0 && far < s.length) {
                can &= x >= 2 * s[mid][0] - s[far][1] - k && x <= 2 * s[mid][1] - s[far][0] + k;
            }
        }
        return can;
    }

    int lies(int i, int k, boolean most) {
        if (told == null || i < 0 || i >= inches()) {
            return nowhere(1);
        }
        if (k < 0 || k > 99) {
            return nowhere(2);
        }
        int[][] s = spans(k);
        return s == null ? nowhere(6) : yes(s[i][most ? 1 : 0]);
    }

    int next(int k) {
        if (told == null) {
            return no(1);
        }
        if (k < 0 || k > 99) {
            return no(2);
        }
        int[][] s = spans(k);
        if (s == null) {
            return no(6);
        }
        int widest = inches() - 1;
        for (int i = inches() - 1; i >= 0; i--) {
            widest = s[i][1] - s[i][0] >= s[widest][1] - s[widest][0] ? i : widest;
        }
        return yes(widest);
    }

    int led(int i) {
        List<Integer> all = new ArrayList<>();
        for (int k = 0; told != null && k < done(); k++) {
            if (hardLine(k, backward) != null) {
                all.add(k);
            }
        }
        if (i < 0 || i >= all.size()) {
            throw new NoSuchElementException();
        }
        return all.get(i);
    }

    int trouble() {
        return trouble;
    }
}
