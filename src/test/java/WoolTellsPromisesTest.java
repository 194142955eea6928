/** Each promise by ordinary inputs, the edges that the document names, and wrong inputs. */
public final class WoolTellsPromisesTest {
    private static final int NONE = -1000000, BAD = -1000001, STATE = -1000002, FULL = -1000003;
    private static final int NULL = -1000011, PLACE = -1000012, KIND = -1000013, SIZE = -1000014, STORE = -1000015;
    private static final int LEAST = Integer.MIN_VALUE, GREATEST = Integer.MAX_VALUE;

    /** One WOOL of each sort: the jersey and the net 0's, the scarf 1's, the cap and the stocking 2's. */
    private static final String SORTS = "knitters 3 4; wool jersey 0 7; wool scarf 1 9; wool cap 2 3;"
            + " wool stocking 2 4; wool net 0 5;";

    private static final Check CHECK = new Check("WoolTellsPromisesTest");

    private WoolTellsPromisesTest() {
    }

    public static void main(String[] args) {
        promise1NewObject();
        promise2Row();
        promise3Set();
        promise4Copy();
        promise5Drop();
        promise6Feed();
        promise7ValleyAsTold();
        promise7ValleyFaults();
        promise7ValleyInPlaceOfAnother();
        promise7ValleyOfAnEmptiedTape();
        promise8Fault();
        promise9Knit();
        promise10Unpick();
        promise11Moths();
        promise12Join();
        promise13Undo();
        promise14Wool();
        promise15Saying();
        promise16Known();
        promise17Worlds();
        promise18Out();
        promise19FirstFalse();
        promise20Wear();
        promise20WearOfSeveralTheFirst();
        promise21Bids();
        promise22Image();
        promise23Restore();
        promise24Kind();
        promise25As();
        promise26Ask();
        promise27Trace();
        promise28Count();
        promise29Status();
        exampleOfTheReadme();
        CHECK.close();
    }

    private static void due(String call, long got, long want) {
        CHECK.due(call, got, want);
    }

    private static void dueFault(String text, int number, int place) {
        WoolTells x = new WoolTells();
        Check.feed(x, text);
        due("valley of <" + text + ">", x.valley(), -1000100L - place);
        due("fault of <" + text + ">", x.fault(), number);
        due("bytes left of <" + text + ">", x.count(7), 0);
        due("knitters of <" + text + ">", x.count(1), 0);
    }

    private static void dueWools(String text, int wools) {
        WoolTells x = new WoolTells();
        Check.feed(x, text);
        due("valley of <" + text + ">", x.valley(), wools);
        due("fault of <" + text + ">", x.fault(), 0);
    }

    private static void dueTrace(WoolTells x, String call, int... bodies) {
        for (int i = 0; i < bodies.length; i++) {
            due(call + ", trace(" + i + ")", x.trace(i), bodies[i]);
        }
        due(call + ", trace behind the last", x.trace(bodies.length), NONE);
    }

    private static void dueWear(WoolTells x, int told, int warm, int... row) {
        due("wear(" + told + ", -1)", x.wear(told, -1), warm);
        for (int k = 0; k < row.length; k++) {
            due("wear(" + told + ", " + k + ")", x.wear(told, k), row[k]);
        }
    }

    private static void fill(WoolTells x, int row, int... items) {
        x.row(row, 2, items.length);
        for (int i = 0; i < items.length; i++) {
            x.set(row, i, items[i]);
        }
    }

    private static void promise1NewObject() {
        WoolTells x = new WoolTells();
        for (int what = 0; what < 8; what++) {
            due("new: count(" + what + ")", x.count(what), 0);
        }
        due("new: moths", x.moths(1), STATE);
        due("new: moths of a wrong seed", x.moths(0), STATE);
        due("new: worlds", x.worlds(0), STATE);
        due("new: firstFalse", x.firstFalse(), STATE);
        due("new: wear", x.wear(0, -1), STATE);
        due("new: bids", x.bids(0, 0, 0), STATE);
        due("new: image", x.image(0), STATE);
        due("new: restore", x.restore(0), STATE);
        due("new: undo", x.undo(), STATE);
        due("new: wool", x.wool(0, 0), BAD);
        due("new: saying", x.saying(0, 0), BAD);
        due("new: known", x.known(0), BAD);
        due("new: out", x.out(0, 0), BAD);
        due("new: kind", x.kind(0), BAD);
        due("new: as", x.as(0, 0), BAD);
        due("new: ask", x.ask(0, 0), BAD);
        due("new: trace", x.trace(0), NONE);
        due("new: fault", x.fault(), 0);
        due("new: status", x.status(), 0);
        due("NONE", WoolTells.NONE, NONE);
        due("BAD", WoolTells.BAD, BAD);
        due("STATE", WoolTells.STATE, STATE);
        due("FULL", WoolTells.FULL, FULL);
    }

    private static void promise2Row() {
        WoolTells x = new WoolTells();
        due("row(0, 0, 40)", x.row(0, 0, 40), 40);
        due("row(7, 2, 0)", x.row(7, 2, 0), 0);
        due("count of rows", x.count(0), 2);
        due("the first item", x.set(0, 39, 5), 5);
        due("a row in place of another", x.row(0, 1, 3), 3);
        due("count of rows then", x.count(0), 2);
        due("its lane", x.set(0, 0, 300), 300);
        due("its end", x.set(0, 3, 1), PLACE);
        x.row(0, 1, 3);
        x.row(1, 1, 3);
        x.set(1, 0, 9);
        x.row(1, 1, 3);
        Check.feed(x, "knitters 3 1;");
        x.valley();
        due("items are 0 at first, anew, too", x.bids(1, 0, 0), NONE);
        due("row(-1, 0, 1)", x.row(-1, 0, 1), BAD);
        due("row(8, 0, 1)", x.row(8, 0, 1), BAD);
        due("row(0, -1, 1)", x.row(0, -1, 1), BAD);
        due("row(0, 3, 1)", x.row(0, 3, 1), BAD);
        due("row(0, 0, 41)", x.row(0, 0, 41), BAD);
        due("row(0, 0, -1)", x.row(0, 0, -1), SIZE);
        due("row(0, 0, least)", x.row(0, 0, LEAST), SIZE);
        due("row(8, 0, -1)", x.row(8, 0, -1), BAD);
        due("row(0, 3, -1)", x.row(0, 3, -1), BAD);
        due("what is refused changes nothing", x.drop(0), 3);
    }

    private static void promise3Set() {
        WoolTells x = new WoolTells();
        x.row(0, 0, 2);
        x.row(1, 1, 2);
        x.row(2, 2, 2);
        due("byte 127", x.set(0, 0, 127), 127);
        due("byte 128", x.set(0, 1, 128), -128);
        due("byte 255", x.set(0, 1, 255), -1);
        due("byte 256", x.set(0, 1, 256), 0);
        due("byte least", x.set(0, 1, LEAST + 3), 3);
        due("short 32767", x.set(1, 0, 32767), 32767);
        due("short 32768", x.set(1, 0, 32768), -32768);
        due("short -32769", x.set(1, 0, -32769), 32767);
        due("int greatest", x.set(2, 1, GREATEST), GREATEST);
        due("int least", x.set(2, 1, LEAST), LEAST);
        due("set(-1, ..)", x.set(-1, 0, 1), BAD);
        due("set(8, ..)", x.set(8, 0, 1), BAD);
        due("set of a missing row", x.set(3, 0, 1), NULL);
        due("set of a missing row, no place", x.set(3, -1, 1), NULL);
        due("set behind the end", x.set(0, 2, 1), PLACE);
        due("set ahead of the begin", x.set(0, -1, 1), PLACE);
        due("set at the greatest", x.set(0, GREATEST, 1), PLACE);
        due("set at the least", x.set(0, LEAST, 1), PLACE);
        x.row(4, 0, 0);
        due("set of a row of none", x.set(4, 0, 1), PLACE);
    }

    private static void promise4Copy() {
        WoolTells x = Check.told("knitters 1 1;");
        fill(x, 0, 1, 2, 3, 4, 5);
        fill(x, 1, 9, 9, 9);
        due("copy(0, 1, 1, 0, 3)", x.copy(0, 1, 1, 0, 3), 3);
        dueItems(x, 1, 2, 3, 4);
        due("copy within, onwards", x.copy(0, 0, 0, 1, 4), 4);
        dueItems(x, 0, 1, 1, 2, 3, 4);
        due("copy within, back", x.copy(0, 1, 0, 0, 4), 4);
        dueItems(x, 0, 1, 2, 3, 4, 4);
        due("copy of none at the ends", x.copy(0, 5, 1, 3, 0), 0);
        due("copy of none beyond an end", x.copy(0, 6, 1, 3, 0), PLACE);
        due("copy of none beyond the other end", x.copy(0, 5, 1, 4, 0), PLACE);
        due("copy beyond the end of a", x.copy(0, 3, 1, 0, 3), PLACE);
        due("copy beyond the end of b", x.copy(0, 0, 1, 1, 3), PLACE);
        due("copy, i below 0", x.copy(0, -1, 1, 0, 1), PLACE);
        due("copy, j below 0", x.copy(0, 0, 1, -1, 1), PLACE);
        due("copy, n below 0", x.copy(0, 2, 1, 2, -1), PLACE);
        due("copy, n greatest", x.copy(0, 1, 1, 1, GREATEST), PLACE);
        due("copy, i greatest", x.copy(0, GREATEST, 1, 1, 1), PLACE);
        due("copy, j greatest", x.copy(0, 1, 1, GREATEST, 1), PLACE);
        dueItems(x, 1, 2, 3, 4);
        x.row(2, 1, 3);
        due("copy, another lane", x.copy(0, 0, 2, 0, 1), STORE);
        due("copy, another lane ahead of a place", x.copy(0, -1, 2, 0, 1), STORE);
        due("copy from a missing row", x.copy(5, -1, 2, 0, 1), NULL);
        due("copy to a missing row", x.copy(2, 0, 5, 0, 1), NULL);
        due("copy from row -1", x.copy(-1, 0, 5, 0, 1), BAD);
        due("copy to row 8", x.copy(5, 0, 8, 0, 1), BAD);
    }

    /** Nothing tells an ITEM but bids, so they are looked at by these: ITEMS of 1 to 98 in a ROW of ints. */
    private static void dueItems(WoolTells x, int row, int... items) {
        x.image(1);
        Check.feed(x, "knitters 2 1;");
        x.valley();
        x.row(7, 2, 2);
        for (int i = 0; i < items.length; i++) {
            due("item " + i + " of row " + row, itemOf(x, row, i), items[i]);
        }
        x.drop(7);
        x.restore(1);
    }

    /** Beside one who gives more the bids end at the ITEM, or 1 above it, by who bids on even numbers. */
    private static int itemOf(WoolTells x, int row, int i) {
        x.set(7, 0, 99);
        x.copy(row, i, 7, 1, 1);
        int asSecond = x.bids(7, 0, 1);
        x.copy(row, i, 7, 0, 1);
        x.set(7, 1, 99);
        return Math.min(asSecond, x.bids(7, 0, 1));
    }

    private static void promise5Drop() {
        WoolTells x = new WoolTells();
        x.row(3, 1, 7);
        due("drop(3)", x.drop(3), 7);
        due("count of rows", x.count(0), 0);
        due("drop of a missing row", x.drop(3), NULL);
        due("set of a dropped row", x.set(3, 0, 0), NULL);
        due("drop(-1)", x.drop(-1), BAD);
        due("drop(8)", x.drop(8), BAD);
        x.row(3, 2, 0);
        due("drop of a row of none", x.drop(3), 0);
    }

    private static void promise6Feed() {
        WoolTells x = new WoolTells();
        due("feed(.., 1)", x.feed(Check.packed("k"), 1), 1);
        due("the highest first, of the lowest", x.feed(Check.packed("xnitters"), 7), 8);
        due("feed(.., 5)", x.feed(Check.packed(" 1 2;"), 5), 13);
        due("valley of it", x.valley(), 0);
        due("knitters", x.count(1), 1);
        due("feed(0, 0)", x.feed(0, 0), BAD);
        due("feed(0, 9)", x.feed(0, 9), BAD);
        due("feed(0, -1)", x.feed(0, -1), BAD);
        due("feed(0, least)", x.feed(0, LEAST), BAD);
        for (int n = 8; n < 400; n += 8) {
            x.feed(-1L, 8);
        }
        due("bytes", x.count(7), 392);
        due("feed of 7", x.feed(0, 7), 399);
        due("feed of 2, one too much", x.feed(0, 2), FULL);
        due("none has come", x.count(7), 399);
        due("feed of 9 where full", x.feed(0, 9), BAD);
        due("the last", x.feed(0, 1), 400);
        due("one more", x.feed(0, 1), FULL);
        due("valley of bytes below 0", x.valley(), -1000100);
    }

    private static void promise7ValleyAsTold() {
        dueWools("knitters 1 1;", 0);
        dueWools("knitters 5 6;", 0);
        dueWools("\n knitters\n\n1 \n 1 ;\n ", 0);
        dueWools("knitters1 1;wool net0 1;saying0 0 0 0;saying0 9 0 1;", 1);
        dueWools("knitters 001 06;wool jersey 000 030;", 1);
        dueWools(SORTS, 5);
        WoolTells x = Check.told("knitters 5 6; wool stocking 4 30; wool cap 3 1; saying 4 1 5 1; saying 0 9 0 0;");
        due("knitters", x.count(1), 5);
        due("wools", x.count(2), 2);
        due("sayings", x.count(3), 2);
        due("the tape is empty then", x.count(7), 0);
        due("lines of wool 0", x.wool(0, 0), 30);
        due("makers of wool 0", x.wool(0, 1), 16);
        due("kind of wool 1", x.kind(1), 3);
        due("who of saying 0", x.saying(0, 0), 4);
    }

    private static void promise7ValleyFaults() {
        dueFault("", 1, 0);
        dueFault(" \n ", 1, 3);
        dueFault("knitter 1 1;", 1, 0);
        dueFault("knitterss 1 1;", 1, 0);
        dueFault("Knitters 1 1;", 1, 0);
        dueFault("snitters 1 1;", 1, 0);
        dueFault("zebra", 1, 0);
        dueFault("knittersz 1 1;", 1, 0);
        dueFault("knitters{", 1, 8);
        dueFault("knitters`", 1, 8);
        dueFault("knitters/", 1, 8);
        dueFault("knitters 1: 1;", 1, 10);
        dueFault("knitters\t1 1;", 1, 8);
        dueFault("knitters", 1, 8);
        dueFault("knitters 0 1;", 2, 9);
        dueFault("knitters 6 1;", 2, 9);
        dueFault("knitters 999 1;", 2, 9);
        dueFault("knitters 1000 1;", 1, 9);
        dueFault("knitters 0001 1;", 1, 9);
        dueFault("knitters 1 0;", 2, 11);
        dueFault("knitters 1 7;", 2, 11);
        dueFault("knitters -1 1;", 1, 9);
        dueFault("knitters 1 1  ", 1, 14);
        dueFault("knitters 1 1,", 1, 12);
        dueFault("knitters 1 1 1;", 1, 13);
        dueFault("knitters 1 1;;", 1, 13);
        dueFault("knitters 1 1; knitters 1 1;", 1, 14);
        dueFault("knitters 1 1; sock 0 1;", 1, 14);
        dueFault("knitters 1 1; wool sock 0 1;", 1, 19);
        dueFault("knitters 1 1; wool wool 0 1;", 1, 19);
        dueFault("knitters 1 1; wool cap 1 1;", 2, 23);
        dueFault("knitters 2 1; wool cap 2 1;", 2, 23);
        dueFault("knitters 1 1; wool cap x 1;", 1, 23);
        dueFault("knitters 1 1; wool cap 0 0;", 2, 25);
        dueFault("knitters 1 1; wool cap 0 31;", 2, 25);
        dueFault("knitters 1 1; wool cap 0 3", 1, 26);
        dueFault("knitters 1 1; saying 1 9 0 0;", 2, 21);
        dueFault("knitters 1 1; saying 0 0 0 0;", 2, 23);
        dueFault("knitters 1 1; wool cap 0 1; saying 0 1 0 0;", 2, 37);
        dueFault("knitters 1 1; saying 0 8 0 0;", 2, 23);
        dueFault("knitters 1 1; saying 0 10 0 0;", 2, 23);
        dueFault("knitters 1 2; saying 0 9 2 0;", 2, 25);
        dueFault("knitters 1 1; saying 0 9 0 2;", 2, 27);
        dueFault("knitters 1 1; saying 0 9 0;", 1, 26);
        dueFault("knitters 1 1; saying 0 9 0 0; wool cap 0 1;", 1, 30);
        dueFault("knitters 1 1; saying 0 9 0 0; ;", 1, 30);
        dueFault(" ".repeat(392) + "knitters", 1, 400);
        dueFault(" ".repeat(390) + "knitters 1", 1, 400);
        dueFault("\n".repeat(400), 1, 400);
        dueWools(" ".repeat(387) + "knitters 1 1;", 0);
        String seven = "knitters 1 1;" + "wool cap0 1;".repeat(7);
        dueWools(seven, 7);
        dueFault(seven + " wool cap0 1;", 3, seven.length() + 1);
        dueFault(seven + "wool", 3, seven.length());
        dueFault(seven + "wools", 1, seven.length());
        dueFault(seven + "saying0 9 0 0;wool cap0 1;", 1, seven.length() + 14);
        String twelve = "knitters 1 1;" + "saying0 9 0 0;".repeat(12);
        dueWools(twelve, 0);
        dueFault(twelve + "saying", 3, twelve.length());
        dueFault(twelve + "wool", 1, twelve.length());
    }

    private static void promise7ValleyInPlaceOfAnother() {
        WoolTells x = Check.told(SORTS);
        x.row(0, 0, 1);
        x.image(0);
        x.knit(0, 1);
        Check.feed(x, "knitters 1 1; wool");
        due("a text with a fault", x.valley(), -1000118);
        due("all stays: knitters", x.count(1), 3);
        due("all stays: lines", x.wool(0, 0), 8);
        due("all stays: acts", x.count(4), 1);
        Check.feed(x, "knitters 2 1; wool net 1 2; saying 0 9 0 0;");
        due("a valley in place of it", x.valley(), 1);
        due("no act can be undone", x.undo(), STATE);
        due("no act is left", x.count(4), 0);
        due("rows stay", x.count(0), 1);
        due("images stay", x.restore(0), 1);
        due("as it was", x.wool(0, 0), 7);
        due("no saying is left", x.count(3), 0);
        Check.feed(x, "knitters 1 1; wool cap 0 1; saying 0 9 0 0; saying 0 9 0 2;");
        due("a fault behind a saying", x.valley(), -1000157);
        Check.feed(x, "knitters 1 1; wool net 0 1; saying 0 9 0 1;");
        due("nothing is left of a text with a fault: wools", x.valley(), 1);
        due("nothing is left of a text with a fault: sayings", x.count(3), 1);
        due("nothing is left of a text with a fault: facts", x.known(0), 1);
    }

    private static void promise7ValleyOfAnEmptiedTape() {
        WoolTells x = new WoolTells();
        Check.feed(x, "knittersknitters 1111111");
        x.valley();
        Check.feed(x, "knitters");
        due("a name that ended further behind", x.valley(), -1000108);
        Check.feed(x, "knitters 1111111");
        x.valley();
        Check.feed(x, "knitters 1");
        due("a number that ended further behind", x.valley(), -1000110);
    }

    private static void promise8Fault() {
        WoolTells x = new WoolTells();
        Check.feed(x, "knitters 9 1;");
        x.valley();
        due("the fault's number", x.fault(), 2);
        Check.feed(x, "knitters 1 1;");
        x.valley();
        due("the latest one stays", x.fault(), 2);
        Check.feed(x, "x");
        x.valley();
        due("a later one", x.fault(), 1);
        Check.feed(x, "knitters 1 1;" + "wool cap0 1;".repeat(8));
        x.valley();
        due("one more than there is room for", x.fault(), 3);
    }

    private static void promise9Knit() {
        WoolTells x = Check.told(SORTS);
        due("knit(0, 30)", x.knit(0, 30), 37);
        due("knit(0, 30) again", x.knit(0, 30), 67);
        due("up to 99 but one", x.knit(0, 30), 97);
        due("above 99", x.knit(0, 3), FULL);
        due("99", x.knit(0, 2), 99);
        due("one above", x.knit(0, 1), FULL);
        due("refused ones are no acts", x.count(4), 4);
        due("makers stay", x.wool(0, 1), 1);
        due("knit(5, 1)", x.knit(5, 1), BAD);
        due("knit(-1, 1)", x.knit(-1, 1), BAD);
        due("knit(0, 0)", x.knit(0, 0), BAD);
        due("knit(0, 31)", x.knit(0, 31), BAD);
        due("knit(1, least)", x.knit(1, LEAST), BAD);
        x.unpick(1, 99);
        due("knit of one that is gone", x.knit(1, 1), STATE);
        due("31 on one that is gone", x.knit(1, 31), BAD);
    }

    private static void promise10Unpick() {
        WoolTells x = Check.told(SORTS);
        due("unpick(0, 3)", x.unpick(0, 3), 3);
        due("how long then", x.wool(0, 0), 4);
        due("as far as there are", x.unpick(0, 99), 4);
        due("it is gone", x.wool(0, 0), 0);
        due("unpick of one that is gone", x.unpick(0, 1), STATE);
        due("unpick(5, 1)", x.unpick(5, 1), BAD);
        due("unpick(-1, 1)", x.unpick(-1, 1), BAD);
        due("unpick(1, 0)", x.unpick(1, 0), BAD);
        due("unpick(1, 100)", x.unpick(1, 100), BAD);
        due("unpick(0, 100) of one that is gone", x.unpick(0, 100), BAD);
        due("acts", x.count(4), 2);
    }

    private static void promise11Moths() {
        WoolTells x = Check.told(SORTS);
        // 16807, 282475249, 1622650073, 984943658, 1144108930 by 3: 1, 1, 2, 2, 1.
        due("moths(1)", x.moths(1), 7);
        due("of wool 0", x.wool(0, 0), 6);
        due("of wool 1", x.wool(1, 0), 8);
        due("of wool 2", x.wool(2, 0), 1);
        due("of wool 3", x.wool(3, 0), 2);
        due("of wool 4", x.wool(4, 0), 4);
        x.unpick(0, 99);
        // One that is gone draws nothing; of wool 2 there is one line, where one is eaten.
        due("moths(1) where one is gone", x.moths(1), 6);
        due("of wool 1 then", x.wool(1, 0), 7);
        due("of wool 2 then", x.wool(2, 0), 0);
        due("of wool 3 then", x.wool(3, 0), 0);
        due("of wool 4 then", x.wool(4, 0), 2);
        due("acts", x.count(4), 3);
        due("moths(0)", x.moths(0), BAD);
        due("moths(1000000)", x.moths(1000000), BAD);
        due("moths(-1)", x.moths(-1), BAD);
        due("moths(999999) is as told", x.moths(999999) >= 0 ? 1 : 0, 1);
        WoolTells few = Check.told("knitters 1 1; wool net 0 1; wool net 0 1; wool net 0 1;");
        due("as far as there are", few.moths(1), 3);
        due("nothing is left to eat", few.moths(1), 0);
        WoolTells most = Check.told("knitters 1 1;" + "wool net 0 9;".repeat(7));
        // The draws behind the first five: 470211272, 101027544 by 3: 2, 0.
        due("of seven wools", most.moths(1), 9);
        Check.feed(most, "knitters 1 1; wool net 0 9;");
        most.valley();
        due("wools of the valley before are not eaten", most.moths(1), 1);
        due("lines of the valley before do not count", most.count(5), 8);
        due("an act by which nothing becomes another", few.count(4), 2);
    }

    private static void promise12Join() {
        WoolTells x = Check.told("knitters 3 2; wool jersey 0 30; wool net 1 30; wool cap 2 30; wool cap 0 10;");
        due("join(0, 1)", x.join(0, 1), 60);
        due("makers of both", x.wool(0, 1), 3);
        due("the kind of the first", x.kind(0), 1);
        due("the other is gone", x.wool(1, 0), 0);
        due("its makers stay", x.wool(1, 1), 2);
        due("join(0, 2)", x.join(0, 2), 90);
        due("above 99", x.join(0, 3), FULL);
        due("above 99 the other way", x.join(3, 0), FULL);
        due("one is gone", x.join(0, 1), STATE);
        due("the first is gone", x.join(1, 0), STATE);
        due("alike", x.join(0, 0), BAD);
        due("alike and gone", x.join(1, 1), BAD);
        due("join(4, 0)", x.join(4, 0), BAD);
        due("join(0, 4)", x.join(0, 4), BAD);
        due("join(-1, 0)", x.join(-1, 0), BAD);
        due("join(0, -1)", x.join(0, -1), BAD);
        due("acts", x.count(4), 2);
        x.unpick(0, 1);
        due("99 in all", x.join(0, 3), 99);
    }

    private static void promise13Undo() {
        WoolTells x = Check.told(SORTS);
        x.join(0, 1);
        x.moths(1);
        x.unpick(2, 99);
        x.knit(3, 9);
        due("undo of knit", x.undo(), 3);
        due("wool 3", x.wool(3, 0), 2);
        due("undo of unpick", x.undo(), 2);
        due("wool 2", x.wool(2, 0), 2);
        due("undo of moths", x.undo(), 1);
        due("wool 4", x.wool(4, 0), 5);
        due("undo of join", x.undo(), 0);
        due("wool 0", x.wool(0, 0), 7);
        due("makers of wool 0", x.wool(0, 1), 1);
        due("wool 1", x.wool(1, 0), 9);
        due("none to undo", x.undo(), STATE);
        WoolTells many = Check.told("knitters 1 1; wool cap 0 1;");
        for (int n = 0; n < 30; n++) {
            many.knit(0, 1);
        }
        due("24 acts are kept", many.count(4), 24);
        for (int left = 23; left >= 0; left--) {
            due("undo of many", many.undo(), left);
        }
        due("the oldest are forgotten", many.wool(0, 0), 7);
        due("none is left", many.undo(), STATE);
        many.knit(0, 2);
        due("kept anew", many.undo(), 0);
        due("as ahead of it", many.wool(0, 0), 7);
    }

    private static void promise14Wool() {
        WoolTells x = Check.told(SORTS);
        int[][] answers = {{7, 1, 7, 1}, {9, 2, 4, 2}, {3, 4, 5, 4}, {4, 4, 4, 4}, {5, 1, 0, 7}};
        for (int w = 0; w < answers.length; w++) {
            for (int what = 0; what < 4; what++) {
                due("wool(" + w + ", " + what + ")", x.wool(w, what), answers[w][what]);
            }
        }
        x.knit(3, 1);
        due("warm of a stocking", x.wool(3, 2), 5);
        due("in a stocking of an odd number none may lie", x.wool(3, 3), 0);
        x.knit(4, 1);
        due("in a net of an even number anybody may", x.wool(4, 3), 7);
        x.join(3, 0);
        due("in a stocking of an even number both makers may", x.wool(3, 3), 5);
        for (int w = 1; w < 5; w++) {
            x.unpick(w, 99);
            due("one that is gone is not warm", x.wool(w, 2), 0);
            due("in one that is gone none may lie", x.wool(w, 3), 0);
        }
        due("makers of one that is gone", x.wool(2, 1), 4);
        due("wool(5, 0)", x.wool(5, 0), BAD);
        due("wool(-1, 0)", x.wool(-1, 0), BAD);
        due("wool(0, 4)", x.wool(0, 4), BAD);
        due("wool(0, -1)", x.wool(0, -1), BAD);
    }

    private static void promise15Saying() {
        WoolTells x = Check.told("knitters 3 4; wool jersey 1 2; wool stocking 2 4;"
                + " saying 2 0 3 1; saying 1 0 2 0; saying 0 9 1 1; saying 2 1 0 0;");
        int[][] answers = {{2, 0, 3, 1, 1}, {1, 0, 2, 0, 0}, {0, NONE, 1, 1, 1}, {2, 1, 0, 0, 0}};
        for (int s = 0; s < answers.length; s++) {
            for (int what = 0; what < 5; what++) {
                due("saying(" + s + ", " + what + ")", x.saying(s, what), answers[s][what]);
            }
        }
        x.knit(1, 1);
        due("bound by an odd stocking", x.saying(3, 4), 1);
        x.unpick(0, 2);
        due("bound by a wool that is gone", x.saying(1, 4), 1);
        due("its wool stays as told", x.saying(1, 1), 0);
        due("saying(4, 0)", x.saying(4, 0), BAD);
        due("saying(-1, 0)", x.saying(-1, 0), BAD);
        due("saying(0, 5)", x.saying(0, 5), BAD);
        due("saying(0, -1)", x.saying(0, -1), BAD);
    }

    private static void promise16Known() {
        WoolTells x = Check.told("knitters 2 4; wool jersey 0 2; saying 1 0 0 1; saying 1 0 0 1; saying 1 9 1 0;"
                + " saying 0 0 2 1; saying 0 9 3 0; saying 1 9 3 1;");
        due("told 1 twice", x.known(0), 1);
        due("told 0", x.known(1), 0);
        due("told by one who may lie", x.known(2), -1);
        due("told both", x.known(3), -2);
        x.unpick(0, 2);
        due("told once the wool is gone", x.known(2), 1);
        due("known(4)", x.known(4), BAD);
        due("known(-1)", x.known(-1), BAD);
        due("known(least)", x.known(LEAST), BAD);
    }

    private static void promise17Worlds() {
        WoolTells x = Check.told("knitters 2 6; wool jersey 0 2; wool cap 0 1; saying 1 9 0 1; saying 0 0 0 0;"
                + " saying 0 0 0 1; saying 0 1 1 1; saying 1 9 2 0; saying 0 1 2 1;");
        due("four facts are free", x.worlds(0), 16);
        due("lies", x.worlds(1), 1 << 1 | 1 << 5);
        x.unpick(1, 1);
        due("both are told", x.worlds(0), 0);
        due("no lies where there are no worlds", x.worlds(1), 0);
        due("worlds(2)", x.worlds(2), BAD);
        due("worlds(-1)", x.worlds(-1), BAD);
        due("a lie told first", Check.told("knitters 1 1; wool net 0 1; saying 0 0 0 1; saying 0 9 0 0;").worlds(1), 1);
        due("no lies of a fact that is not known", Check.told("knitters 1 1; wool cap 0 1; wool net 0 1;"
                + " saying 0 0 0 1; saying 0 0 0 0; saying 0 1 0 1;").worlds(1), 0);
        due("one world", Check.told("knitters 1 1; saying 0 9 0 0;").worlds(0), 1);
        due("all facts are free", Check.told("knitters 1 6;").worlds(0), 64);
        due("no valley ahead of bad", new WoolTells().worlds(2), STATE);
    }

    private static void promise18Out() {
        WoolTells x = Check.told("knitters 1 3; wool jersey 0 4; wool cap 0 2; wool cap 0 2; wool net 0 9;"
                + " saying 0 0 0 1; saying 0 1 0 0; saying 0 2 0 1; saying 0 3 1 1; saying 0 9 2 1;");
        due("the fewest lines", x.out(0, 0), 2);
        due("of several the least set", x.out(0, 1), 2);
        due("only one", x.out(1, 0), 9);
        due("the net", x.out(1, 1), 8);
        due("known already", x.out(2, 0), 0);
        due("no wool", x.out(2, 1), 0);
        due("nothing has changed", x.count(5), 17);
        x.unpick(1, 2);
        due("known by one that is gone", x.out(0, 0), 0);
        due("no set", x.out(0, 1), 0);
        x.unpick(2, 2);
        due("both are told", x.out(0, 0), NONE);
        due("no set then", x.out(0, 1), NONE);
        due("no world for another fact", x.out(1, 0), NONE);
        due("no world for one that is known", x.out(2, 1), NONE);
        WoolTells two = Check.told("knitters 2 2; wool jersey 0 3; wool jersey 0 3; wool net 1 5;"
                + " saying 0 1 0 1; saying 0 0 0 1; saying 0 2 1 1; saying 0 2 1 0;");
        due("alike by two", two.out(0, 1), 1);
        due("never known without both", two.out(1, 0), NONE);
        due("one world alone", Check.told("knitters 1 1; wool cap 0 1; saying 0 0 0 0;").out(0, 0), 1);
        due("out(2, 0)", two.out(2, 0), BAD);
        due("out(-1, 0)", two.out(-1, 0), BAD);
        due("out(0, 2)", two.out(0, 2), BAD);
        due("out(0, -1)", two.out(0, -1), BAD);
    }

    private static void promise19FirstFalse() {
        WoolTells x = Check.told("knitters 2 2; wool jersey 0 2; saying 0 0 0 1; saying 1 9 0 0; saying 1 9 1 1;"
                + " saying 0 9 0 0; saying 0 9 1 0;");
        due("the first that says else", x.firstFalse(), 4);
        x.unpick(0, 2);
        due("earlier where the wool is gone", x.firstFalse(), 1);
        due("none", Check.told("knitters 1 2; saying 0 9 0 1; saying 0 9 1 0;").firstFalse(), NONE);
        due("no sayings", Check.told("knitters 1 1;").firstFalse(), NONE);
        due("not one that is not bound", Check.told("knitters 1 1; wool net 0 1;"
                + " saying 0 9 0 1; saying 0 0 0 0;").firstFalse(), NONE);
    }

    private static void promise20Wear() {
        WoolTells x = Check.told(SORTS);
        dueWear(x, 0, 16, 0, 1, 2);
        dueWear(x, 1, 16, 1, 0, 2);
        dueWear(x, 7, 16, 1, 2, 0);
        x.unpick(0, 99);
        dueWear(x, 0, 13, 1, 2, 3);
        dueWear(x, 4, 13, 2, 3, 1, BAD);
        due("no wool twice, none that is gone", x.wear(0, 0), 1);
        due("wear(-1, 0)", x.wear(-1, 0), BAD);
        due("wear(8, 0)", x.wear(8, 0), BAD);
        due("wear(0, 3)", x.wear(0, 3), BAD);
        due("wear(0, -2)", x.wear(0, -2), BAD);
        due("nothing has changed", x.count(4), 1);
        due("no valley ahead of bad", new WoolTells().wear(-1, -2), STATE);
    }

    private static void promise20WearOfSeveralTheFirst() {
        dueWear(Check.told("knitters 2 1; wool net 0 9; wool scarf 1 1;"), 0, 0, -1, -1);
        dueWear(Check.told("knitters 3 1; wool cap 0 9;"), 0, 11, -1, -1, 0);
        dueWear(Check.told("knitters 3 1; wool cap 0 9; wool jersey 1 11;"), 0, 22, -1, 0, 1);
        dueWear(Check.told("knitters 2 1; wool cap 1 9; wool jersey 0 11;"), 3, 22, 0, 1);
        WoolTells most = Check.told("knitters 5 1; wool cap 0 1; wool cap 0 2; wool cap 0 3; wool cap 0 4;"
                + "wool cap 0 5; wool cap 0 6; wool cap 0 7;");
        dueWear(most, 0, 35, 2, 3, 4, 5, 6);
        dueWear(most, 1, 30, -1, 3, 4, 5, 6);
        Check.feed(most, "knitters 2 1; wool cap 0 1; wool jersey 0 3; wool jersey 1 3;");
        most.valley();
        dueWear(most, 0, 6, 0, 1);
        dueWear(most, 3, 6, 2, 0);
        WoolTells odd = Check.told("knitters 1 1; wool stocking 0 5;");
        dueWear(odd, 1, 5, 0);
        odd.knit(0, 1);
        dueWear(odd, 1, 0, -1);
        dueWear(odd, 0, 6, 0);
    }

    private static void promise21Bids() {
        WoolTells x = Check.told("knitters 3 1;");
        fill(x, 0, 5, 6, 8, 8, 0, 0, 0, 999);
        dueBids(x, 0, 2, 6);
        dueBids(x, 1, 2, 8);
        dueBids(x, 2, 1, 8);
        dueBids(x, 3, 0, 1);
        due("nobody did: who", x.bids(0, 4, 0), NONE);
        due("nobody did: how much", x.bids(0, 4, 1), NONE);
        dueBids(x, 5, 2, 1);
        due("beyond the end", x.bids(0, 6, 0), PLACE);
        due("ahead of the begin", x.bids(0, -1, 0), PLACE);
        due("at the greatest", x.bids(0, GREATEST, 0), PLACE);
        due("a missing row", x.bids(1, -1, 0), NULL);
        due("row 8", x.bids(8, 0, 0), BAD);
        due("row -1", x.bids(-1, 0, 0), BAD);
        due("what 2", x.bids(1, 0, 2), BAD);
        due("what -1", x.bids(1, 0, -1), BAD);
        x.set(0, 3, 1000);
        due("an item of 1000", x.bids(0, 1, 0), BAD);
        x.set(0, 3, -1);
        due("an item below 0", x.bids(0, 3, 0), BAD);
        dueBids(x, 0, 2, 6);
        dueBids(x, 4, NONE, NONE);
        x.set(0, 6, 999);
        dueBids(x, 5, 1, 999);
        due("no valley ahead of bad", new WoolTells().bids(8, 0, 2), STATE);
        WoolTells alone = Check.told("knitters 1 1;");
        alone.row(0, 0, 1);
        alone.set(0, 0, 99);
        due("one alone bids once", alone.bids(0, 0, 1), 1);
        due("one alone", alone.bids(0, 0, 0), 0);
    }

    private static void dueBids(WoolTells x, int i, int who, int much) {
        due("bids(0, " + i + ", 0)", x.bids(0, i, 0), who);
        due("bids(0, " + i + ", 1)", x.bids(0, i, 1), much);
    }

    private static void promise22Image() {
        WoolTells x = new WoolTells();
        due("image(2) without a valley", x.image(2), BAD);
        due("image(-1)", x.image(-1), BAD);
        due("image(1) without a valley", x.image(1), STATE);
        Check.feed(x, SORTS);
        x.valley();
        x.knit(0, 1);
        due("image(0)", x.image(0), 1);
        due("acts stay", x.count(4), 1);
        x.knit(0, 1);
        due("image(1)", x.image(1), 1);
        x.restore(0);
        due("the first image", x.wool(0, 0), 8);
        x.restore(1);
        due("the second image", x.wool(0, 0), 9);
        x.image(0);
        x.unpick(0, 99);
        x.restore(0);
        due("an image in place of one before", x.wool(0, 0), 9);
    }

    private static void promise23Restore() {
        WoolTells x = Check.told(SORTS + " saying 0 9 3 1;");
        due("none was kept", x.restore(0), STATE);
        due("restore(2)", x.restore(2), BAD);
        due("restore(-1)", x.restore(-1), BAD);
        x.image(1);
        due("the other one was not kept", x.restore(0), STATE);
        x.join(0, 1);
        Check.feed(x, "knitters 1 1;");
        x.valley();
        x.moths(1);
        due("restore(1)", x.restore(1), 1);
        due("knitters", x.count(1), 3);
        due("wools", x.count(2), 5);
        due("sayings", x.count(3), 1);
        due("facts", x.known(3), 1);
        due("lines", x.count(5), 28);
        due("makers", x.wool(0, 1), 1);
        due("kinds", x.kind(4), 5);
        due("no act can be undone", x.undo(), STATE);
        x.unpick(0, 1);
        x.restore(1);
        due("the image stays as kept", x.wool(0, 0), 7);
    }

    private static void promise24Kind() {
        WoolTells x = Check.told(SORTS);
        for (int w = 0; w < 5; w++) {
            due("kind(" + w + ")", x.kind(w), w + 1);
        }
        x.unpick(4, 99);
        due("of one that is gone", x.kind(4), 5);
        due("kind(5)", x.kind(5), BAD);
        due("kind(-1)", x.kind(-1), BAD);
    }

    private static void promise25As() {
        WoolTells x = Check.told(SORTS);
        int[] kinds = {0b11, 0b111, 0b1011, 0b10001, 0b110001};
        for (int w = 0; w < 5; w++) {
            for (int kind = 0; kind < 6; kind++) {
                due("as(" + w + ", " + kind + ")", x.as(w, kind), (kinds[w] >> kind & 1) == 1 ? w : KIND);
            }
        }
        x.unpick(4, 99);
        due("one that is gone", x.as(4, 4), 4);
        due("it stays what it is", x.kind(4), 5);
        due("as(0, 6)", x.as(0, 6), BAD);
        due("as(0, -1)", x.as(0, -1), BAD);
        due("as(5, 0)", x.as(5, 0), BAD);
        due("as(-1, 0)", x.as(-1, 0), BAD);
    }

    private static void promise26Ask() {
        WoolTells x = Check.told(SORTS);
        dueAsk(x, 0, 0, 8, 11, 10, 21, 20);
        dueAsk(x, 0, 1, 1, 21, 20);
        dueAsk(x, 1, 0, -15, 12, 11, 10, 24, 21, 20);
        dueAsk(x, 1, 1, 6, 24, 21, 20);
        dueAsk(x, 2, 0, 3 + 6 - 1000, 11, 10, 22, 21, 20);
        dueAsk(x, 2, 1, 6 - 1000, 22, 21, 20);
        dueAsk(x, 3, 0, -96, 13, 10);
        dueAsk(x, 3, 1, 99, 23, 20, 13, 10);
        dueAsk(x, 4, 0, -190, 14, 13, 10);
        dueAsk(x, 4, 1, 194, 23, 20, 14, 13, 10);
        x.unpick(4, 99);
        dueAsk(x, 4, 0, -200, 14, 13, 10);
        x.join(2, 0);
        dueAsk(x, 2, 1, 2 + 5 - 1000, 22, 21, 20);
        due("ask(5, 0)", x.ask(5, 0), BAD);
        due("ask(-1, 0)", x.ask(-1, 0), BAD);
        due("ask(0, 2)", x.ask(0, 2), BAD);
        due("ask(0, -1)", x.ask(0, -1), BAD);
        dueTrace(x, "refused asks", 22, 21, 20);
    }

    private static void dueAsk(WoolTells x, int wool, int what, int answer, int... bodies) {
        String call = "ask(" + wool + ", " + what + ")";
        due(call, x.ask(wool, what), answer);
        dueTrace(x, call, bodies);
    }

    private static void promise27Trace() {
        WoolTells x = Check.told(SORTS);
        x.ask(1, 0);
        due("trace(-1)", x.trace(-1), NONE);
        due("trace(0)", x.trace(0), 12);
        due("trace(5)", x.trace(5), 20);
        due("trace(6)", x.trace(6), NONE);
        due("trace(16)", x.trace(16), NONE);
        due("trace(greatest)", x.trace(GREATEST), NONE);
        due("trace(least)", x.trace(LEAST), NONE);
        x.ask(0, 1);
        dueTrace(x, "empty ahead of the next ask", 21, 20);
        Check.feed(x, "knitters 1 1;");
        x.valley();
        dueTrace(x, "another valley", 21, 20);
    }

    private static void promise28Count() {
        WoolTells x = Check.told(SORTS + "saying 0 0 0 0; saying 1 0 0 1; saying 2 9 1 1;");
        x.row(0, 0, 0);
        x.row(5, 0, 9);
        x.row(7, 1, 1);
        x.unpick(0, 3);
        x.knit(1, 4);
        x.feed(0, 3);
        int[] counts = {3, 3, 5, 3, 2, 29, 2, 3};
        for (int what = 0; what < counts.length; what++) {
            due("count(" + what + ")", x.count(what), counts[what]);
        }
        x.unpick(0, 99);
        due("wools, those too that are gone", x.count(2), 5);
        due("lines then", x.count(5), 25);
        due("bound sayings then", x.count(6), 3);
        due("count(8)", x.count(8), BAD);
        due("count(-1)", x.count(-1), BAD);
    }

    private static void promise29Status() {
        WoolTells x = Check.told(SORTS);
        due("none yet", x.status(), 0);
        x.row(0, 0, -1);
        dueStatus(x, "SIZE", 4);
        x.row(0, 0, 5);
        dueStatus(x, "row()", 0);
        x.set(0, 5, 0);
        dueStatus(x, "PLACE", 2);
        x.set(9, 0, 0);
        dueStatus(x, "a BAD call leaves it", 2);
        x.set(0, 0, 0);
        dueStatus(x, "set()", 0);
        x.drop(1);
        dueStatus(x, "NULL", 1);
        x.wool(0, 0);
        x.knit(0, 1);
        x.ask(0, 0);
        x.kind(0);
        dueStatus(x, "calls without a ROW leave it", 1);
        x.as(0, 0);
        dueStatus(x, "as()", 0);
        x.as(0, 5);
        dueStatus(x, "KIND", 3);
        x.as(9, 0);
        dueStatus(x, "as() BAD leaves it", 3);
        x.copy(0, 0, 0, 1, 2);
        dueStatus(x, "copy()", 0);
        x.row(1, 2, 5);
        x.copy(0, 9, 1, 0, 1);
        dueStatus(x, "STORE", 5);
        x.bids(0, 0, 0);
        dueStatus(x, "bids(), nobody", 0);
        x.bids(0, 3, 0);
        dueStatus(x, "bids() PLACE", 2);
        x.set(1, 0, -1);
        x.bids(0, 3, 0);
        x.bids(1, 0, 0);
        dueStatus(x, "bids() BAD by an item leaves it", 2);
        x.bids(2, 0, 0);
        dueStatus(x, "bids() NULL", 1);
        x.drop(1);
        dueStatus(x, "drop()", 0);
        WoolTells none = new WoolTells();
        none.drop(0);
        none.bids(0, 0, 0);
        dueStatus(none, "bids() STATE leaves it", 1);
    }

    private static void dueStatus(WoolTells x, String behind, int number) {
        due("status behind " + behind, x.status(), number);
    }

    /** README.md shows this use, with these answers. */
    private static void exampleOfTheReadme() {
        WoolTells x = new WoolTells();
        String text = "knitters 2 1; wool jersey 0 3; saying 0 0 0 1;";
        for (int i = 0; i < text.length(); i++) {
            due("feed of one byte", x.feed(text.charAt(i), 1), i + 1);
        }
        due("valley", x.valley(), 1);
        due("known 0", x.known(0), -1);
        due("out 0 0", x.out(0, 0), 3);
        due("unpick 0 3", x.unpick(0, 3), 3);
        due("known 0, once unpicked", x.known(0), 1);
        due("undo", x.undo(), 0);
        due("known 0, once undone", x.known(0), -1);
    }
}
