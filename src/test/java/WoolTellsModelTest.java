import java.util.Random;

/** Long runs of calls, wrong ones too, each answer beside that of the model. The seeds are fixed. */
public final class WoolTellsModelTest {
    private static final int RUNS = 1500, CALLS = 512;
    private static final String[] SORTS = {"jersey", "scarf", "cap", "stocking", "net"};
    private static final String[] SPOILS = {"", ";", "9", "1000", "x", "wool", "saying", "0", " 7", "\t", "A", "-", "31"};
    private static final int[] ODD = {Integer.MIN_VALUE, Integer.MAX_VALUE, -1, 9, 41, 100, 1 << 30, -1000000};

    private static final Check CHECK = new Check("WoolTellsModelTest");

    private final Random random;
    private final WoolTells x = new WoolTells();
    private final Model model = new Model();
    private final StringBuilder calls = new StringBuilder();
    private int spare = CALLS;

    private WoolTellsModelTest(long seed) {
        random = new Random(seed);
    }

    public static void main(String[] args) {
        for (int run = 0; run < RUNS && !CHECK.isWrong(); run++) {
            WoolTellsModelTest test = new WoolTellsModelTest(run);
            test.play(run % 3 == 0);
            if (CHECK.isWrong()) {
                System.out.println("run " + run + ":" + test.calls);
            }
        }
        CHECK.close();
    }

    private void play(boolean early) {
        if (!early) {
            tellValley(false);
        }
        while (spare > 0 && !CHECK.isWrong()) {
            int turn = random.nextInt(100);
            if (turn < 1) {
                tellValley(random.nextInt(3) == 0);
            } else if (turn < 30) {
                callRows();
            } else if (turn < 55) {
                callActs();
            } else if (turn < 80) {
                callForetold();
            } else {
                callAsked();
            }
        }
    }

    private void due(String call, int got, int want) {
        spare--;
        calls.append(' ').append(call);
        CHECK.due(call, got, want);
    }

    /** A number of 0 to most - 1 mostly, else one beside these, or an odd one. */
    private int near(int most) {
        int turn = random.nextInt(40);
        if (turn == 0) {
            return ODD[random.nextInt(ODD.length)];
        }
        return turn == 1 ? -1 : turn == 2 ? most : random.nextInt(most);
    }

    private String gap() {
        return random.nextInt(4) == 0 ? " \n ".substring(random.nextInt(3)) : " ";
    }

    private String text() {
        int knitters = 1 + random.nextInt(5);
        int facts = 1 + random.nextInt(6);
        int wools = random.nextInt(8);
        int sayings = random.nextInt(13);
        StringBuilder text = new StringBuilder();
        text.append("knitters").append(gap()).append(knitters).append(' ').append(facts).append(gap()).append(';');
        for (int w = 0; w < wools; w++) {
            text.append("wool").append(gap()).append(SORTS[random.nextInt(5)]).append(random.nextInt(knitters));
            text.append(gap()).append(1 + random.nextInt(random.nextBoolean() ? 30 : 4)).append(';');
        }
        for (int s = 0; s < sayings; s++) {
            int worn = wools == 0 || random.nextInt(3) == 0 ? 9 : random.nextInt(wools);
            text.append("saying").append(random.nextInt(knitters)).append(' ').append(worn).append(' ');
            text.append(random.nextInt(facts)).append(gap()).append(random.nextInt(2)).append(';');
        }
        return text.toString();
    }

    private String spoilt(String text) {
        int at = random.nextInt(text.length());
        int until = Math.min(text.length(), at + random.nextInt(3));
        return text.substring(0, at) + SPOILS[random.nextInt(SPOILS.length)] + text.substring(until);
    }

    private void tellValley(boolean wrong) {
        String text = wrong ? spoilt(text()) : text();
        for (int at = 0; at < text.length() && spare > 1; at += 8) {
            String part = text.substring(at, Math.min(text.length(), at + 8));
            long w = Check.packed(part);
            due("feed " + part, x.feed(w, part.length()), model.feed(w, part.length()));
        }
        due("valley", x.valley(), model.valley());
        due("fault", x.fault(), model.fault());
    }

    private void callRows() {
        int row = near(8);
        int other = near(8);
        int i = near(6);
        int j = near(6);
        int n = near(10);
        int v = random.nextInt(3) == 0 ? random.nextInt() : random.nextInt(1001);
        switch (random.nextInt(6)) {
            case 0:
            case 1:
                int lane = near(3);
                due("row " + row + " " + lane + " " + n * 4, x.row(row, lane, n * 4), model.row(row, lane, n * 4));
                break;
            case 2:
                due("drop " + row, x.drop(row), model.drop(row));
                break;
            case 3:
                due("copy " + row + " " + i + " " + other + " " + j + " " + n,
                        x.copy(row, i, other, j, n), model.copy(row, i, other, j, n));
                break;
            default:
                due("set " + row + " " + i + " " + v, x.set(row, i, v), model.set(row, i, v));
                break;
        }
        due("status", x.status(), model.status());
    }

    private void callActs() {
        int wool = near(7);
        int other = near(7);
        int n = near(random.nextBoolean() ? 6 : 32);
        switch (random.nextInt(12)) {
            case 0:
                long w = random.nextLong();
                due("feed " + w + " " + n, x.feed(w, n), model.feed(w, n));
                break;
            case 1:
                if (random.nextInt(20) == 0) {
                    due("valley", x.valley(), model.valley());
                }
                due("fault", x.fault(), model.fault());
                break;
            case 2:
            case 3:
            case 4:
                due("knit " + wool + " " + n, x.knit(wool, n), model.knit(wool, n));
                break;
            case 5:
                due("unpick " + wool + " " + n, x.unpick(wool, n), model.unpick(wool, n));
                break;
            case 6:
                int seed = random.nextInt(3) == 0 ? near(20) : random.nextInt(1000100);
                due("moths " + seed, x.moths(seed), model.moths(seed));
                break;
            case 7:
                due("join " + wool + " " + other, x.join(wool, other), model.join(wool, other));
                break;
            case 8:
                due("undo", x.undo(), model.undo());
                break;
            case 9:
                due("saying " + wool, x.saying(wool + n, other), model.saying(wool + n, other));
                break;
            default:
                int what = near(4);
                due("wool " + wool + " " + what, x.wool(wool, what), model.wool(wool, what));
                break;
        }
    }

    private void callForetold() {
        int fact = near(6);
        int what = near(2);
        switch (random.nextInt(9)) {
            case 0:
                due("known " + fact, x.known(fact), model.known(fact));
                break;
            case 1:
                due("worlds " + what, x.worlds(what), model.worlds(what));
                break;
            case 2:
                due("out " + fact + " " + what, x.out(fact, what), model.out(fact, what));
                break;
            case 3:
                due("firstFalse", x.firstFalse(), model.firstFalse());
                break;
            case 4:
                int told = near(33);
                int k = near(6) - 1;
                due("wear " + told + " " + k, x.wear(told, k), model.wear(told, k));
                break;
            case 5:
                due("image " + what, x.image(what), model.image(what));
                break;
            case 6:
                if (random.nextInt(3) == 0) {
                    due("restore " + what, x.restore(what), model.restore(what));
                }
                break;
            default:
                int row = near(8);
                due("bids " + row + " " + fact + " " + what, x.bids(row, fact, what), model.bids(row, fact, what));
                due("status", x.status(), model.status());
                break;
        }
    }

    private void callAsked() {
        int wool = near(7);
        int kind = near(6);
        int what = near(2);
        switch (random.nextInt(6)) {
            case 0:
                due("kind " + wool, x.kind(wool), model.kind(wool));
                break;
            case 1:
                due("as " + wool + " " + kind, x.as(wool, kind), model.as(wool, kind));
                due("status", x.status(), model.status());
                break;
            case 2:
                due("ask " + wool + " " + what, x.ask(wool, what), model.ask(wool, what));
                break;
            case 3:
                due("trace " + kind, x.trace(kind), model.trace(kind));
                break;
            case 4:
                int number = near(8);
                due("count " + number, x.count(number), model.count(number));
                break;
            default:
                due("status", x.status(), model.status());
                break;
        }
    }
}
