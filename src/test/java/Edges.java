/** One part of the document's edges: words of it, each looked at by calls of objects of its own. */
abstract class Edges {
    static final int NONE = -1000000, BAD = -1000001, STATE = -1000002, FULL = -1000003;
    static final int NULL = -1000011, PLACE = -1000012, KIND = -1000013, SIZE = -1000014, STORE = -1000015;
    static final int LEAST = Integer.MIN_VALUE, GREATEST = Integer.MAX_VALUE;

    /** One WOOL of each sort: the jersey and the net 0's, the scarf 1's, the cap and the stocking 2's. */
    static final String SORTS = "knitters 3 4;wool jersey 0 7;wool scarf 1 9;wool cap 2 3;wool stocking 2 4;wool net 0 5;";

    private final Check check;
    private final Document document;
    private String section = "";
    private String words = "";
    private boolean isLookedAt = true;

    Edges(Check check, Document document) {
        this.check = check;
        this.document = document;
    }

    /** Looks at all words of this part. */
    abstract void look();

    /** The section of the document in which the next words stand. */
    final void section(String name) {
        section = name;
    }

    /** What is due behind this, is due by these words of the document. */
    final void says(String nextWords) {
        end();
        words = nextWords;
        isLookedAt = false;
        check.dueTrue("<" + words + "> stands in " + section + ", not looked at yet: this", document.mark(section, words));
    }

    final void end() {
        check.dueTrue("<" + words + "> in " + section + " is looked at by a call: this", isLookedAt);
    }

    final void due(String call, long got, long want) {
        isLookedAt = true;
        check.due(section + " <" + words + ">: " + call, got, want);
    }

    /** Refused by each of these numbers, told as one argument of a call. */
    interface Call {
        int of(int number);
    }

    final void dueOfAll(String call, int want, Call made, int... numbers) {
        for (int number : numbers) {
            due(call + " of " + number, made.of(number), want);
        }
    }

    final void dueFault(String text, int number, int place) {
        WoolTells x = new WoolTells();
        Check.feed(x, text);
        due("valley() of <" + text + ">", x.valley(), -1000100L - place);
        due("fault() of <" + text + ">", x.fault(), number);
        due("no valley of <" + text + ">", x.worlds(0), STATE);
    }

    final void dueValley(String text, int wools, int sayings) {
        WoolTells x = new WoolTells();
        Check.feed(x, text);
        due("valley() of <" + text + ">", x.valley(), wools);
        due("sayings of <" + text + ">", x.count(3), sayings);
    }

    final void dueBids(WoolTells x, int row, int i, int who, int much) {
        due("bids(" + row + ", " + i + ", 0)", x.bids(row, i, 0), who);
        due("bids(" + row + ", " + i + ", 1)", x.bids(row, i, 1), much);
    }

    final void dueWear(WoolTells x, int told, int warm, int... row) {
        due("wear(" + told + ", -1)", x.wear(told, -1), warm);
        for (int k = 0; k < row.length; k++) {
            due("wear(" + told + ", " + k + ")", x.wear(told, k), row[k]);
        }
    }

    final void dueAsk(WoolTells x, int wool, int what, int answer, int... bodies) {
        String call = "ask(" + wool + ", " + what + ")";
        due(call, x.ask(wool, what), answer);
        for (int i = 0; i < bodies.length; i++) {
            due(call + ", trace(" + i + ")", x.trace(i), bodies[i]);
        }
        due(call + ", trace() behind the last", x.trace(bodies.length), NONE);
    }

    final void dueLines(WoolTells x, int... lines) {
        for (int w = 0; w < lines.length; w++) {
            due("wool(" + w + ", 0)", x.wool(w, 0), lines[w]);
        }
    }

    /** A ROW of ints with these ITEMS. */
    static void fill(WoolTells x, int row, int... items) {
        x.row(row, 2, items.length);
        for (int i = 0; i < items.length; i++) {
            x.set(row, i, items[i]);
        }
    }

    /** Another VALLEY in place of the one that is there. */
    static int tell(WoolTells x, String text) {
        Check.feed(x, text);
        return x.valley();
    }

    /** All that can be seen of an object by calls that change nothing, but status(). */
    static String seen(WoolTells x) {
        StringBuilder seen = new StringBuilder();
        for (int what = 0; what < 8; what++) {
            seen.append(" count ").append(x.count(what));
        }
        for (int w = 0; w < x.count(2); w++) {
            for (int what = 0; what < 4; what++) {
                seen.append(" wool ").append(x.wool(w, what));
            }
            seen.append(" kind ").append(x.kind(w));
        }
        for (int s = 0; s < x.count(3); s++) {
            for (int what = 0; what < 5; what++) {
                seen.append(" saying ").append(x.saying(s, what));
            }
        }
        for (int fact = 0; fact < 6; fact++) {
            seen.append(" known ").append(x.known(fact));
        }
        for (int i = 0; i < 7; i++) {
            seen.append(" trace ").append(x.trace(i));
        }
        return seen.append(" fault ").append(x.fault()).toString();
    }

    final void dueAlike(String what, String got, String want) {
        isLookedAt = true;
        check.dueTrue(section + " <" + words + ">: " + what + " is <" + want + ">, is <" + got + ">: this", got.equals(want));
    }
}
