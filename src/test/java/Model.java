import java.nio.charset.StandardCharsets;
import java.util.ArrayDeque;
import java.util.ArrayList;
import java.util.Deque;
import java.util.List;
import java.util.regex.Matcher;
import java.util.regex.Pattern;

/** A second reading of the document, by the Java library and by trying all there is: slow and plain. */
final class Model {
    static final int NONE = -1000000, BAD = -1000001, STATE = -1000002, FULL = -1000003;

    private static final Pattern TOKEN = Pattern.compile("[ \n]*([a-z]+|[0-9]+|[^ \n]|$)");
    private static final List<String> SORTS = List.of("", "jersey", "scarf", "cap", "stocking", "net");

    private final List<int[]> rows = new ArrayList<>();
    private final int[] lanes = new int[8];
    private final StringBuilder tape = new StringBuilder();
    private final List<Integer> trace = new ArrayList<>();
    private final Town[] images = new Town[2];
    private final Deque<Town> past = new ArrayDeque<>();
    private Town town = null;
    private int fault = 0;
    private int finding = 0;

    Model() {
        for (int r = 0; r < 8; r++) {
            rows.add(null);
        }
    }

    /** Wools by what the document says of their kinds: a body is asked of the nearest. */
    private interface Lent {
        Yarn yarn();

        List<Integer> trace();

        default int size() {
            trace().add(10);
            return yarn().lines;
        }

        default int mark() {
            trace().add(20);
            return yarn().number;
        }
    }

    private static class Woollen implements Lent {
        private final Yarn yarn;
        private final List<Integer> trace;

        Woollen(Yarn yarn, List<Integer> trace) {
            this.yarn = yarn;
            this.trace = trace;
        }

        @Override
        public Yarn yarn() {
            return yarn;
        }

        @Override
        public List<Integer> trace() {
            return trace;
        }
    }

    private static class Jersey extends Woollen {
        Jersey(Yarn yarn, List<Integer> trace) {
            super(yarn, trace);
        }

        @Override
        public int size() {
            trace().add(11);
            int lent = super.size();
            return lent + mark();
        }

        @Override
        public int mark() {
            trace().add(21);
            return super.mark() + yarn().makers;
        }
    }

    private static final class Scarf extends Jersey {
        Scarf(Yarn yarn, List<Integer> trace) {
            super(yarn, trace);
        }

        @Override
        public int size() {
            trace().add(12);
            return 0 - super.size();
        }

        @Override
        public int mark() {
            trace().add(24);
            return 2 * super.mark();
        }
    }

    private static final class Cap extends Jersey {
        Cap(Yarn yarn, List<Integer> trace) {
            super(yarn, trace);
        }

        @Override
        public int mark() {
            trace().add(22);
            return super.mark() - 1000;
        }
    }

    private static class Stocking extends Woollen {
        Stocking(Yarn yarn, List<Integer> trace) {
            super(yarn, trace);
        }

        @Override
        public int size() {
            trace().add(13);
            return super.size() - 100;
        }

        @Override
        public int mark() {
            trace().add(23);
            int lent = super.mark();
            return lent - size();
        }
    }

    private static final class Net extends Stocking {
        Net(Yarn yarn, List<Integer> trace) {
            super(yarn, trace);
        }

        @Override
        public int size() {
            trace().add(14);
            return 2 * super.size();
        }
    }

    private static Woollen wearable(Yarn yarn, List<Integer> trace) {
        switch (yarn.sort) {
            case "jersey":
                return new Jersey(yarn, trace);
            case "scarf":
                return new Scarf(yarn, trace);
            case "cap":
                return new Cap(yarn, trace);
            case "stocking":
                return new Stocking(yarn, trace);
            default:
                return new Net(yarn, trace);
        }
    }

    private static final class Yarn {
        int number;
        String sort;
        int makers;
        int lines;

        Yarn twin() {
            Yarn twin = new Yarn();
            twin.number = number;
            twin.sort = sort;
            twin.makers = makers;
            twin.lines = lines;
            return twin;
        }

        boolean mayLie(int who) {
            if (lines == 0) {
                return false;
            }
            boolean maker = (makers & 1 << who) != 0;
            switch (sort) {
                case "net":
                    return true;
                case "stocking":
                    return maker && lines % 2 == 0;
                default:
                    return maker;
            }
        }

        int warm() {
            if (lines == 0 || sort.equals("net")) {
                return 0;
            }
            return sort.equals("scarf") ? lines / 2 : sort.equals("cap") ? lines + 2 : lines;
        }
    }

    private record Said(int who, int worn, int fact, int is) {
    }

    private static final class Town {
        int knitters;
        int facts;
        List<Yarn> wools = new ArrayList<>();
        List<Said> sayings = new ArrayList<>();

        Town twin() {
            Town twin = new Town();
            twin.knitters = knitters;
            twin.facts = facts;
            wools.forEach(y -> twin.wools.add(y.twin()));
            twin.sayings.addAll(sayings);
            return twin;
        }

        Town without(int set) {
            Town twin = twin();
            for (Yarn y : twin.wools) {
                if ((set & 1 << y.number) != 0) {
                    y.lines = 0;
                }
            }
            return twin;
        }

        int lines(int set) {
            return wools.stream().filter(y -> (set & 1 << y.number) != 0).mapToInt(y -> y.lines).sum();
        }

        boolean bound(Said s) {
            return s.worn == 9 || !wools.get(s.worn).mayLie(s.who);
        }

        int known(int fact) {
            boolean so = sayings.stream().anyMatch(s -> s.fact == fact && s.is == 1 && bound(s));
            boolean not = sayings.stream().anyMatch(s -> s.fact == fact && s.is == 0 && bound(s));
            return so && not ? -2 : so ? 1 : not ? 0 : -1;
        }

        static boolean isTrue(Said s, int world) {
            return (world >> s.fact & 1) == s.is;
        }

        List<Integer> worlds() {
            List<Integer> worlds = new ArrayList<>();
            for (int world = 0; world < 1 << facts; world++) {
                int here = world;
                if (sayings.stream().allMatch(s -> !bound(s) || isTrue(s, here))) {
                    worlds.add(world);
                }
            }
            return worlds;
        }

        int lies() {
            List<Integer> worlds = worlds();
            int set = 0;
            for (int s = 0; s < sayings.size(); s++) {
                Said said = sayings.get(s);
                if (!worlds.isEmpty() && !bound(said) && worlds.stream().noneMatch(w -> isTrue(said, w))) {
                    set += 1 << s;
                }
            }
            return set;
        }

        int[] out(int fact) {
            int[] best = {NONE, NONE};
            for (int set = (1 << wools.size()) - 1; set >= 0; set--) {
                Town then = without(set);
                boolean fewer = best[0] == NONE || lines(set) <= best[0];
                if (fewer && then.known(fact) >= 0 && !then.worlds().isEmpty()) {
                    best[0] = lines(set);
                    best[1] = set;
                }
            }
            return best;
        }

        int firstFalse() {
            boolean[][] said = new boolean[6][2];
            for (int i = 0; i < sayings.size(); i++) {
                Said s = sayings.get(i);
                if (bound(s)) {
                    if (said[s.fact][1 - s.is]) {
                        return i;
                    }
                    said[s.fact][s.is] = true;
                }
            }
            return NONE;
        }

        /** All rows in their order; {warm, the row ..}. */
        int[] wear(int told) {
            int[] best = new int[knitters + 1];
            best[0] = -1;
            tryRows(told, new int[knitters], 0, best);
            return best;
        }

        private void tryRows(int told, int[] row, int k, int[] best) {
            if (k == knitters) {
                int warm = 0;
                for (int w : row) {
                    warm += w < 0 ? 0 : wools.get(w).warm();
                }
                if (warm > best[0]) {
                    best[0] = warm;
                    System.arraycopy(row, 0, best, 1, knitters);
                }
                return;
            }
            for (int w = -1; w < wools.size(); w++) {
                boolean may = w < 0 || wools.get(w).lines > 0
                        && ((told & 1 << k) == 0 || !wools.get(w).mayLie(k));
                for (int other = 0; other < k; other++) {
                    may &= w < 0 || row[other] != w;
                }
                if (may) {
                    row[k] = w;
                    tryRows(told, row, k + 1, best);
                }
            }
        }
    }

    private static final class Fault extends Exception {
        private static final long serialVersionUID = 1L;
        final int number;
        final int place;

        Fault(int number, int place) {
            this.number = number;
            this.place = place;
        }
    }

    private record Token(String text, int place) {
    }

    private static final class Parser {
        private final Deque<Token> tokens = new ArrayDeque<>();

        Parser(String text) {
            Matcher m = TOKEN.matcher(text);
            int at = 0;
            while (m.find(at)) {
                tokens.add(new Token(m.group(1), m.start(1)));
                if (m.group(1).isEmpty()) {
                    break;
                }
                at = m.end();
            }
        }

        Town parse() throws Fault {
            Town town = new Town();
            word("knitters");
            town.knitters = number(1, 5);
            town.facts = number(1, 6);
            word(";");
            while (next().equals("wool")) {
                if (town.wools.size() == 7) {
                    throw new Fault(3, tokens.peek().place);
                }
                tokens.poll();
                Yarn y = new Yarn();
                y.number = town.wools.size();
                y.sort = word("jersey", "scarf", "cap", "stocking", "net");
                y.makers = 1 << number(0, town.knitters - 1);
                y.lines = number(1, 30);
                word(";");
                town.wools.add(y);
            }
            while (next().equals("saying")) {
                if (town.sayings.size() == 12) {
                    throw new Fault(3, tokens.peek().place);
                }
                tokens.poll();
                int who = number(0, town.knitters - 1);
                int worn = next().matches("0{0,2}9") ? number(9, 9) : number(0, town.wools.size() - 1);
                int fact = number(0, town.facts - 1);
                int is = number(0, 1);
                word(";");
                town.sayings.add(new Said(who, worn, fact, is));
            }
            word("");
            return town;
        }

        private String next() {
            return tokens.peek().text;
        }

        private String word(String... any) throws Fault {
            if (!List.of(any).contains(next())) {
                throw new Fault(1, tokens.peek().place);
            }
            return tokens.poll().text;
        }

        private int number(int least, int most) throws Fault {
            if (!next().matches("[0-9]{1,3}")) {
                throw new Fault(1, tokens.peek().place);
            }
            int value = Integer.parseInt(next());
            if (value < least || value > most) {
                throw new Fault(2, tokens.peek().place);
            }
            tokens.poll();
            return value;
        }
    }

    private static boolean within(int n, int least, int most) {
        return least <= n && n <= most;
    }

    private int finding(int number) {
        finding = number;
        return -1000010 - number;
    }

    private int noFinding(int answer) {
        finding = 0;
        return answer;
    }

    private boolean noWool(int wool) {
        return town == null || !within(wool, 0, town.wools.size() - 1);
    }

    private boolean gone(int wool) {
        return town.wools.get(wool).lines == 0;
    }

    private void act() {
        past.push(town.twin());
        if (past.size() > 24) {
            past.removeLast();
        }
    }

    int row(int row, int lane, int n) {
        if (!within(row, 0, 7) || !within(lane, 0, 2) || n > 40) {
            return BAD;
        }
        if (n < 0) {
            return finding(4);
        }
        rows.set(row, new int[n]);
        lanes[row] = lane;
        return noFinding(n);
    }

    int set(int row, int i, int v) {
        if (!within(row, 0, 7)) {
            return BAD;
        }
        if (rows.get(row) == null) {
            return finding(1);
        }
        if (!within(i, 0, rows.get(row).length - 1)) {
            return finding(2);
        }
        int unused = lanes[row] == 0 ? 24 : lanes[row] == 1 ? 16 : 0;
        rows.get(row)[i] = v << unused >> unused;
        return noFinding(rows.get(row)[i]);
    }

    int copy(int a, int i, int b, int j, int n) {
        if (!within(a, 0, 7) || !within(b, 0, 7)) {
            return BAD;
        }
        if (rows.get(a) == null || rows.get(b) == null) {
            return finding(1);
        }
        if (lanes[a] != lanes[b]) {
            return finding(5);
        }
        boolean below = i < 0 || j < 0 || n < 0;
        if (below || (long) i + n > rows.get(a).length || (long) j + n > rows.get(b).length) {
            return finding(2);
        }
        int[] ahead = rows.get(a).clone();
        for (int k = 0; k < n; k++) {
            rows.get(b)[j + k] = ahead[i + k];
        }
        return noFinding(n);
    }

    int drop(int row) {
        if (!within(row, 0, 7)) {
            return BAD;
        }
        if (rows.get(row) == null) {
            return finding(1);
        }
        return noFinding(rows.set(row, null).length);
    }

    int feed(long w, int n) {
        if (!within(n, 1, 8)) {
            return BAD;
        }
        if (tape.length() + n > 400) {
            return FULL;
        }
        byte[] bytes = new byte[n];
        for (int i = 0; i < n; i++) {
            bytes[n - 1 - i] = (byte) (w >>> 8 * i);
        }
        tape.append(new String(bytes, StandardCharsets.ISO_8859_1));
        return tape.length();
    }

    int valley() {
        String text = tape.toString();
        tape.setLength(0);
        try {
            town = new Parser(text).parse();
            past.clear();
            return town.wools.size();
        } catch (Fault f) {
            fault = f.number;
            return -1000100 - f.place;
        }
    }

    int fault() {
        return fault;
    }

    int knit(int wool, int n) {
        if (noWool(wool) || !within(n, 1, 30)) {
            return BAD;
        }
        if (gone(wool)) {
            return STATE;
        }
        if (town.wools.get(wool).lines + n > 99) {
            return FULL;
        }
        act();
        return town.wools.get(wool).lines += n;
    }

    int unpick(int wool, int n) {
        if (noWool(wool) || !within(n, 1, 99)) {
            return BAD;
        }
        if (gone(wool)) {
            return STATE;
        }
        act();
        int ahead = town.wools.get(wool).lines;
        town.wools.get(wool).lines = Math.max(0, ahead - n);
        return ahead - town.wools.get(wool).lines;
    }

    int moths(int seed) {
        if (town == null) {
            return STATE;
        }
        if (!within(seed, 1, 999999)) {
            return BAD;
        }
        act();
        int ahead = town.lines(-1);
        long x = seed;
        for (Yarn y : town.wools) {
            if (y.lines > 0) {
                x = x * 16807 % 2147483647;
                y.lines = Math.max(0, y.lines - (int) (x % 3));
            }
        }
        return ahead - town.lines(-1);
    }

    int join(int a, int b) {
        if (noWool(a) || noWool(b) || a == b) {
            return BAD;
        }
        if (gone(a) || gone(b)) {
            return STATE;
        }
        if (town.wools.get(a).lines + town.wools.get(b).lines > 99) {
            return FULL;
        }
        act();
        Yarn first = town.wools.get(a);
        first.lines += town.wools.get(b).lines;
        first.makers |= town.wools.get(b).makers;
        town.wools.get(b).lines = 0;
        return first.lines;
    }

    int undo() {
        if (past.isEmpty()) {
            return STATE;
        }
        town = past.pop();
        return past.size();
    }

    int wool(int wool, int what) {
        if (noWool(wool) || !within(what, 0, 3)) {
            return BAD;
        }
        Yarn y = town.wools.get(wool);
        int liars = 0;
        for (int k = 0; k < town.knitters; k++) {
            liars += y.mayLie(k) ? 1 << k : 0;
        }
        return new int[] {y.lines, y.makers, y.warm(), liars}[what];
    }

    int saying(int saying, int what) {
        if (town == null || !within(saying, 0, town.sayings.size() - 1) || !within(what, 0, 4)) {
            return BAD;
        }
        Said s = town.sayings.get(saying);
        return new int[] {s.who, s.worn == 9 ? NONE : s.worn, s.fact, s.is, town.bound(s) ? 1 : 0}[what];
    }

    int known(int fact) {
        return town == null || !within(fact, 0, town.facts - 1) ? BAD : town.known(fact);
    }

    int worlds(int what) {
        if (town == null) {
            return STATE;
        }
        return what == 0 ? town.worlds().size() : what == 1 ? town.lies() : BAD;
    }

    int out(int fact, int what) {
        if (town == null || !within(fact, 0, town.facts - 1) || !within(what, 0, 1)) {
            return BAD;
        }
        return town.out(fact)[what];
    }

    int firstFalse() {
        return town == null ? STATE : town.firstFalse();
    }

    int wear(int told, int k) {
        if (town == null) {
            return STATE;
        }
        if (!within(told, 0, (1 << town.knitters) - 1) || !within(k, -1, town.knitters - 1)) {
            return BAD;
        }
        return town.wear(told)[k + 1];
    }

    int bids(int row, int i, int what) {
        if (town == null) {
            return STATE;
        }
        if (!within(row, 0, 7) || !within(what, 0, 1)) {
            return BAD;
        }
        int[] items = rows.get(row);
        if (items == null) {
            return finding(1);
        }
        if (i < 0 || (long) i + town.knitters > items.length) {
            return finding(2);
        }
        for (int k = 0; k < town.knitters; k++) {
            if (!within(items[i + k], 0, 999)) {
                return BAD;
            }
        }
        int latest = NONE;
        int much = 0;
        int silent = 0;
        // A round in which nobody bids: as many turns as KNITTERS, from KNITTER 0 on or not, is the same.
        for (int turn = 0; silent < town.knitters; turn++) {
            int k = turn % town.knitters;
            if (k != latest && items[i + k] >= much + 1) {
                much++;
                latest = k;
                silent = 0;
            } else {
                silent++;
            }
        }
        return noFinding(what == 0 || latest == NONE ? latest : much);
    }

    int image(int k) {
        if (!within(k, 0, 1)) {
            return BAD;
        }
        if (town == null) {
            return STATE;
        }
        images[k] = town.twin();
        return 1;
    }

    int restore(int k) {
        if (!within(k, 0, 1)) {
            return BAD;
        }
        if (images[k] == null) {
            return STATE;
        }
        town = images[k].twin();
        past.clear();
        return 1;
    }

    int kind(int wool) {
        return noWool(wool) ? BAD : SORTS.indexOf(town.wools.get(wool).sort);
    }

    int as(int wool, int kind) {
        if (noWool(wool) || !within(kind, 0, 5)) {
            return BAD;
        }
        Class<?>[] kinds = {Woollen.class, Jersey.class, Scarf.class, Cap.class, Stocking.class, Net.class};
        boolean is = kinds[kind].isInstance(wearable(town.wools.get(wool), new ArrayList<>()));
        return is ? noFinding(wool) : finding(3);
    }

    int ask(int wool, int what) {
        if (noWool(wool) || !within(what, 0, 1)) {
            return BAD;
        }
        trace.clear();
        Woollen asked = wearable(town.wools.get(wool), trace);
        return what == 0 ? asked.size() : asked.mark();
    }

    int trace(int i) {
        return within(i, 0, Math.min(16, trace.size()) - 1) ? trace.get(i) : NONE;
    }

    int count(int what) {
        switch (what) {
            case 0:
                return (int) rows.stream().filter(r -> r != null).count();
            case 1:
                return town == null ? 0 : town.knitters;
            case 2:
                return town == null ? 0 : town.wools.size();
            case 3:
                return town == null ? 0 : town.sayings.size();
            case 4:
                return past.size();
            case 5:
                return town == null ? 0 : town.lines(-1);
            case 6:
                return town == null ? 0 : (int) town.sayings.stream().filter(town::bound).count();
            case 7:
                return tape.length();
            default:
                return BAD;
        }
    }

    int status() {
        return finding;
    }
}
