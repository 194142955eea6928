/** Counts the answers that are not as due, and feeds texts. */
final class Check {
    private final String test;
    private int looked = 0;
    private int wrong = 0;

    Check(String test) {
        this.test = test;
    }

    void due(String call, long got, long want) {
        looked++;
        if (got != want) {
            wrong++;
            System.out.println(call + " answered " + got + ", due is " + want);
        }
    }

    void dueTrue(String what, boolean holds) {
        looked++;
        if (!holds) {
            wrong++;
            System.out.println(what + " does not hold");
        }
    }

    boolean isWrong() {
        return wrong > 0;
    }

    void close() {
        System.out.println(test + ": " + looked + " looked at, " + wrong + " wrong");
        if (wrong > 0 || looked == 0) {
            System.exit(1);
        }
    }

    /** Feeds a text, as many bytes at once as there may be. */
    static void feed(WoolTells x, String text) {
        for (int at = 0; at < text.length(); at += 8) {
            String part = text.substring(at, Math.min(text.length(), at + 8));
            x.feed(packed(part), part.length());
        }
    }

    /** At most 8 signs, the first in the highest byte. */
    static long packed(String part) {
        long w = 0;
        for (int i = 0; i < part.length(); i++) {
            w = w << 8 | part.charAt(i) & 255;
        }
        return w;
    }

    /** A new object with the VALLEY of a text. */
    static WoolTells told(String text) {
        WoolTells x = new WoolTells();
        feed(x, text);
        int wools = x.valley();
        if (wools < 0) {
            throw new IllegalStateException("not a valley: " + text + " answered " + wools);
        }
        return x;
    }
}
