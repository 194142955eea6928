/** The tape, the texts and their faults. */
final class TextEdges extends Edges {
    private static final String SEVEN = "knitters 1 1;" + "wool cap0 1;".repeat(7);
    private static final String TWELVE = "knitters 1 1;" + "saying0 9 0 0;".repeat(12);

    TextEdges(Check check, Document document) {
        super(check, document);
    }

    @Override
    void look() {
        lookAtTheTape();
        lookAtNamesAndNumbers();
        lookAtSignsAndBlanks();
        lookAtAValley();
        lookAtKnitters();
        lookAtWools();
        lookAtSayings();
        lookAtAValleyInPlace();
        lookAtFaults();
        lookAtNumbersOfFaults();
        lookAtPromise6Feed();
        lookAtPromise7Valley();
        lookAtPromise8Fault();
        end();
    }

    private void lookAtTheTape() {
        section("Terms");
        says("TEXTS: THE TAPE has at most 400 bytes; ");
        WoolTells x = new WoolTells();
        Check.feed(x, " ".repeat(399));
        due("bytes", x.count(7), 399);
        due("two more", x.feed(32, 2), FULL);
        due("one more", x.feed(32, 1), 400);
        due("one more yet", x.feed(32, 1), FULL);
        due("eight more", x.feed(32, 8), FULL);
        due("valley() of 400 blanks", x.valley(), -1000500);
        Check.feed(x, " ".repeat(387) + "knitters 5 6;");
        due("as many as ahead", x.count(7), 400);
        due("valley() of 400 bytes", x.valley(), 0);
    }

    private void lookAtNamesAndNumbers() {
        section("Terms");
        says("TOKENS: NAMES (letters a to z), ");
        dueFault("Knitters 1 1;", 1, 0);
        dueFault("knitterS 1 1;", 1, 0);
        dueFault("knitterS 9 1;", 1, 0);
        dueFault("knittersa 1 1;", 1, 0);
        dueFault("knittersz 1 1;", 1, 0);
        dueFault("knitters` 1 1;", 1, 8);
        dueFault("knitters{ 1 1;", 1, 8);
        dueFault("knitters@ 1 1;", 1, 8);
        dueFault("`knitters 1 1;", 1, 0);
        dueFault("knitters_ 1 1;", 1, 8);
        dueFault("knitters\u00e1 1 1;", 1, 8);
        dueFault("\u00ebnitters 1 1;", 1, 0);
        dueFault("knit ters 1 1;", 1, 0);
        dueFault("knitters a 1;", 1, 9);
        dueFault("knitters z 1;", 1, 9);

        says("NUMBERS (figures, 3 at most), ");
        dueValley("knitters 5 6; wool cap 4 29; saying 0 9 5 1;", 1, 1);
        dueValley("knitters 001 002; wool cap 000 003; wool cap 00 30; saying 0 001 01 000; saying 0 009 0 1;", 2, 2);
        dueFault("knitters 0001 1;", 1, 9);
        dueFault("knitters 1 0001;", 1, 11);
        dueFault("knitters 1 1; wool cap 0000 1;", 1, 23);
        dueFault("knitters 1 1; saying 0 0009 0 0;", 1, 23);
        dueFault("knitters / 1;", 1, 9);
        dueFault("knitters : 1;", 1, 9);
        dueFault("knitters 1: 1;", 1, 10);
        dueFault("knitters 1/ 1;", 1, 10);
        dueFault("knitters +1 1;", 1, 9);
        dueFault("knitters -1 1;", 1, 9);
        dueFault("knitters 1.0 1;", 1, 10);
        dueFault("knitters \u00b1 1;", 1, 9);
    }

    private void lookAtSignsAndBlanks() {
        section("Terms");
        says("SIGNS ; ");
        dueFault("knitters 1 1:", 1, 12);
        dueFault("knitters 1 1,", 1, 12);
        dueFault("knitters 1 1<", 1, 12);
        dueFault("knitters; 1 1;", 1, 8);
        dueFault("knitters 1 1;;", 1, 13);
        dueFault(";", 1, 0);
        dueFault("knitters 1 1\u00bb", 1, 12);

        says("bytes 32 and 10 ahead of, between, behind these, ");
        dueValley(" \n knitters \n 1\n\n1 ;\n wool\njersey\n0 7 ; \n", 1, 0);
        for (char c : new char[] {0, 9, 11, 13, 31, 33, 160, 138, 255}) {
            dueFault(c + "knitters 1 1;", 1, 0);
            dueFault("knitters" + c + "1 1;", 1, 8);
            dueFault("knitters 1 1;" + c, 1, 13);
        }

        says("as many as wanted ");
        dueValley(" ".repeat(387) + "knitters 1 1;", 0, 0);
        dueValley("knitters 1 1;" + "\n".repeat(387), 0, 0);
        dueValley("knitters" + " ".repeat(100) + "1" + "\n".repeat(100) + "1" + " \n".repeat(90) + ";", 0, 0);

        says("(none is needed where one ends without). ");
        dueValley("knitters1 1;wool jersey0 7;saying0 0 0 1;", 1, 1);
        dueValley("knitters3 4;wool\nnet2 1;saying2 9 3 0;", 1, 1);
        dueFault("knitters 11;", 2, 9);
        dueFault("knitters1 1;woolcap0 7;", 1, 12);
    }

    private void lookAtAValley() {
        section("Terms");
        says("valley: knitters { wool } { saying }. ");
        dueValley("knitters 1 1;", 0, 0);
        dueValley("knitters 1 1; wool cap 0 1;", 1, 0);
        dueValley("knitters 1 1; saying 0 9 0 0;", 0, 1);
        dueValley("knitters 1 1; wool cap 0 1; wool net 0 1; saying 0 9 0 0; saying 0 1 0 0;", 2, 2);
        dueFault("", 1, 0);
        dueFault("wool cap 0 1;", 1, 0);
        dueFault("saying 0 9 0 0;", 1, 0);
        dueFault("knitters 1 1; knitters 1 1;", 1, 14);
        dueFault("knitters 1 1; wool cap 0 1; knitters 1 1;", 1, 28);
        dueFault("knitters 1 1; saying 0 9 0 0; wool cap 0 1;", 1, 30);
        dueFault("knitters 1 1; saying 0 9 0 0; knitters 1 1;", 1, 30);
        dueFault("knitters 1 1; 5", 1, 14);
        dueFault("knitters 1 1; sayings 0 9 0 0;", 1, 14);
    }

    private void lookAtKnitters() {
        section("Terms");
        says("knitters: 'knitters' MANY FACTS ';' ");
        WoolTells x = Check.told("knitters 2 5;");
        due("knitters", x.count(1), 2);
        due("the last fact", x.known(4), -1);
        due("no fact behind it", x.known(5), BAD);
        dueFault("knitter 1 1;", 1, 0);
        dueFault("snitters 1 1;", 1, 0);
        dueFault("knitterz 1 1;", 1, 0);
        dueFault("knitters", 1, 8);
        dueFault("knitters 1", 1, 10);
        dueFault("knitters 1;", 1, 10);
        dueFault("knitters 1 1", 1, 12);
        dueFault("knitters 1 1 1;", 1, 13);
        dueFault("knitters 1 1 wool cap 0 1;", 1, 13);
        says("(1 to 5; ");
        dueValley("knitters 1 1;", 0, 0);
        dueValley("knitters 5 1;", 0, 0);
        dueFault("knitters 0 1;", 2, 9);
        dueFault("knitters 6 1;", 2, 9);
        dueFault("knitters 999 1;", 2, 9);
        says("1 to 6). ");
        dueValley("knitters 1 6;", 0, 0);
        dueFault("knitters 1 0;", 2, 11);
        dueFault("knitters 1 7;", 2, 11);
        dueFault("knitters 1 999;", 2, 11);
    }

    private void lookAtWools() {
        section("Terms");
        says("wool: 'wool' SORT MAKER LONG ';' (SORT: 'jersey' | 'scarf' | 'cap' | 'stocking' | 'net'; ");
        WoolTells x = Check.told("knitters 2 1; wool jersey 0 1; wool scarf 1 2; wool cap 0 3; wool stocking 1 4; wool net 0 5;");
        for (int w = 0; w < 5; w++) {
            due("the kind of wool " + w, x.kind(w), w + 1);
            due("the maker of wool " + w, x.wool(w, 1), 1 + w % 2);
            due("the lines of wool " + w, x.wool(w, 0), w + 1);
        }
        dueFault("knitters 1 1; wool", 1, 18);
        dueFault("knitters 1 1; wool wool 0 1;", 1, 19);
        dueFault("knitters 1 1; wool sock 0 1;", 1, 19);
        dueFault("knitters 1 1; wool caps 0 1;", 1, 19);
        dueFault("knitters 1 1; wool ca 0 1;", 1, 19);
        dueFault("knitters 1 1; wool map 0 1;", 1, 19);
        dueFault("knitters 1 1; pool cap 0 1;", 1, 14);
        dueFault("knitters 1 1; wool 3 0 1;", 1, 19);
        dueFault("knitters 1 1; wool cap;", 1, 22);
        dueFault("knitters 1 1; wool cap 0;", 1, 24);
        dueFault("knitters 1 1; wool cap 0 1", 1, 26);
        dueFault("knitters 1 1; wool cap 0 1 1;", 1, 27);
        says("a KNITTER; ");
        dueValley("knitters 5 1; wool cap 4 1;", 1, 0);
        dueFault("knitters 5 1; wool cap 5 1;", 2, 23);
        dueFault("knitters 1 1; wool cap 1 1;", 2, 23);
        dueFault("knitters 1 6; wool cap 1 1;", 2, 23);
        dueFault("knitters 2 1; wool cap cap 1;", 1, 23);
        says("1 to 30; ");
        dueValley("knitters 1 1; wool cap 0 1; wool cap 0 30;", 2, 0);
        dueFault("knitters 1 1; wool cap 0 0;", 2, 25);
        dueFault("knitters 1 1; wool cap 0 31;", 2, 25);
        dueFault("knitters 1 1; wool cap 0 999;", 2, 25);
        says("WOOLS 0 .. 6, 7 at most). ");
        WoolTells seven = Check.told(SEVEN);
        due("wool 6", seven.wool(6, 0), 1);
        due("no wool 7", seven.wool(7, 0), BAD);
        dueFault(SEVEN + "wool cap0 1;", 3, SEVEN.length());
    }

    private void lookAtSayings() {
        section("Terms");
        says("saying: 'saying' WHO WOOL FACT IS ';' ");
        WoolTells x = Check.told("knitters 3 4; wool cap 0 1; wool cap 0 1; saying 2 1 3 0; saying 1 0 2 1;");
        int[] told = {2, 1, 3, 0};
        for (int what = 0; what < 4; what++) {
            due("saying(0, " + what + ")", x.saying(0, what), told[what]);
        }
        due("is of the other", x.saying(1, 3), 1);
        dueFault("knitters 1 1; paying 0 9 0 0;", 1, 14);
        dueFault("knitters 1 1; saying", 1, 20);
        dueFault("knitters 1 1; saying;", 1, 20);
        dueFault("knitters 1 1; saying 0;", 1, 22);
        dueFault("knitters 1 1; saying 0 9;", 1, 24);
        dueFault("knitters 1 1; saying 0 9 0;", 1, 26);
        dueFault("knitters 1 1; saying 0 9 0 0", 1, 28);
        dueFault("knitters 1 1; saying 0 9 0 0 0;", 1, 29);
        says("(a KNITTER; ");
        dueValley("knitters 5 1; saying 4 9 0 0;", 0, 1);
        dueFault("knitters 5 1; saying 5 9 0 0;", 2, 21);
        dueFault("knitters 1 6; saying 1 9 0 0;", 2, 21);
        says("a WOOL told, ");
        dueValley(SEVEN + "saying0 6 0 0;", 7, 1);
        dueFault(SEVEN + "saying0 7 0 0;", 2, SEVEN.length() + 8);
        dueFault("knitters 1 1; saying 0 0 0 0;", 2, 23);
        dueFault("knitters 1 1; wool cap 0 1; saying 0 1 0 0;", 2, 37);
        says("or 9: none; ");
        due("the wool of 9", Check.told("knitters 1 1; saying 0 9 0 0;").saying(0, 1), NONE);
        dueFault("knitters 1 1; saying 0 8 0 0;", 2, 23);
        dueFault("knitters 1 1; saying 0 10 0 0;", 2, 23);
        dueFault("knitters 1 1; saying 0 99 0 0;", 2, 23);
        says("a FACT; ");
        dueValley("knitters 1 6; saying 0 9 5 0;", 0, 1);
        dueFault("knitters 1 6; saying 0 9 6 0;", 2, 25);
        dueFault("knitters 5 1; saying 0 9 1 0;", 2, 25);
        says("0 he said it is not so, 1 it is; ");
        due("known of what is not so", Check.told("knitters 1 1; saying 0 9 0 0;").known(0), 0);
        due("known of what is so", Check.told("knitters 1 1; saying 0 9 0 1;").known(0), 1);
        dueFault("knitters 1 1; saying 0 9 0 2;", 2, 27);
        says("SAYINGS 0 .. 11, 12 at most). ");
        WoolTells twelve = Check.told(TWELVE);
        due("saying 11", twelve.saying(11, 0), 0);
        due("no saying 12", twelve.saying(12, 0), BAD);
        dueFault(TWELVE + "saying0 9 0 0;", 3, TWELVE.length());
    }

    private void lookAtAValleyInPlace() {
        section("Terms");
        says("A VALLEY that is read stands in place of the one before ");
        WoolTells x = Check.told("knitters 3 4; wool jersey 2 7; wool net 0 5; saying 1 9 3 1;");
        due("a lesser one", tell(x, "knitters 1 1; wool cap 0 1;"), 1);
        due("knitters", x.count(1), 1);
        due("wools", x.count(2), 1);
        due("sayings", x.count(3), 0);
        due("lines", x.count(5), 1);
        due("the kind", x.kind(0), 3);
        due("the maker", x.wool(0, 1), 1);
        due("no second wool", x.wool(1, 0), BAD);
        due("facts", x.known(1), BAD);
        says("(none at first): ");
        due("worlds() at first", new WoolTells().worlds(0), STATE);
        due("knitters at first", new WoolTells().count(1), 0);
        says("no ACT can be undone; ");
        x.knit(0, 1);
        x.moths(1);
        due("acts", x.count(4), 2);
        tell(x, "knitters 1 1; wool cap 0 1;");
        due("acts then", x.count(4), 0);
        due("undo() then", x.undo(), STATE);
        due("as told", x.wool(0, 0), 1);
        says("IMAGES and ROWS stay.");
        x.knit(0, 9);
        x.image(0);
        fill(x, 7, 5, 0, 3);
        tell(x, "knitters 3 1;");
        due("rows", x.count(0), 1);
        dueBids(x, 7, 0, 0, 3);
        due("restore(0)", x.restore(0), 1);
        due("as it was kept", x.wool(0, 0), 10);
        due("the other image", x.restore(1), STATE);
    }

    private void lookAtFaults() {
        section("Terms");
        says("FAULTS, the first TOKEN that has one ");
        dueFault("knitters 9 9; wool sock 9 99;", 2, 9);
        dueFault("knitters 1 9; knitters", 2, 11);
        dueFault("knitters 1 1; wool cap 7 99", 2, 23);
        dueFault("knitters 1 1; wool cap 0 99 x", 2, 25);
        dueFault("knitters 1 1; saying 0 3 9 9", 2, 23);
        dueFault("knitters 1 1; saying x 3 9 9", 1, 21);
        says("(its first byte), ");
        dueFault("\n  knittters 1 1;", 1, 3);
        dueFault("knitters   99 1;", 2, 11);
        dueFault("knitters 1 1;wool\n\n\nsock 0 1;", 1, 20);
        says("of one TOKEN the least: ");
        dueFault("knitters 1000 1;", 1, 9);
        dueFault(SEVEN + "saying0 9 0 0;wool cap0 1;", 1, SEVEN.length() + 14);
        dueFault(TWELVE + "wool cap0 1;", 1, TWELVE.length());
        says("1 it cannot stand there, or is none ");
        dueFault("knitters knitters 1;", 1, 9);
        dueFault("knitters 1 ; 1;", 1, 11);
        dueFault("1 knitters 1;", 1, 0);
        dueFault("knitters 1 1; wool cap net 1;", 1, 23);
        dueFault("knitters ! 1;", 1, 9);
        dueFault("knitters 1 1; #", 1, 14);
        says("(a run of four figures or more, at its first; ");
        dueFault("knitters 0000000001 1;", 1, 9);
        dueFault("knitters 1 1; wool cap 0 0030;", 1, 25);
        dueFault("knitters 1 99999999999999999999;", 1, 11);
        dueFault("knitters 1 1; 1000", 1, 14);
        says("the end: how many bytes there are); ");
        dueFault("", 1, 0);
        dueFault(" \n ", 1, 3);
        dueFault("knitters 1 1  \n", 1, 15);
        dueFault("\n".repeat(400), 1, 400);
        dueFault(" ".repeat(391) + "knitters ", 1, 400);
        dueFault(" ".repeat(390) + "knitters 1", 1, 400);
    }

    private void lookAtNumbersOfFaults() {
        section("Terms");
        says("2 a NUMBER that is not as told; ");
        dueFault("knitters 000 1;", 2, 9);
        dueFault("knitters 1 1; wool net 1 1;", 2, 23);
        dueFault("knitters 1 1; wool net 0 31;", 2, 25);
        dueFault("knitters 1 1; saying 1 9 0 0;", 2, 21);
        dueFault("knitters 1 1; saying 0 5 0 0;", 2, 23);
        dueFault("knitters 1 1; saying 0 9 1 0;", 2, 25);
        dueFault("knitters 1 1; saying 0 9 0 9;", 2, 27);
        says("3 a wool, a saying more than there is room for (its word).");
        dueFault(SEVEN + " \nwool cap0 1;", 3, SEVEN.length() + 2);
        dueFault(SEVEN + "wool", 3, SEVEN.length());
        dueFault(SEVEN + "wool sock 99;", 3, SEVEN.length());
        dueFault(SEVEN + "wools", 1, SEVEN.length());
        dueFault(TWELVE + "  saying0 9 0 0;", 3, TWELVE.length() + 2);
        dueFault(TWELVE + "saying", 3, TWELVE.length());
        dueFault(TWELVE + "say", 1, TWELVE.length());
        dueFault(SEVEN + TWELVE.substring(13) + "saying0 9 0 0;", 3, SEVEN.length() + TWELVE.length() - 13);
        dueValley(SEVEN + TWELVE.substring(13), 7, 12);
    }

    private void lookAtPromise6Feed() {
        section("Promise 6");
        says("The lowest n bytes of w (1 to 8), ");
        WoolTells x = new WoolTells();
        due("eight of eight", x.feed(Check.packed("knitters"), 8), 8);
        due("five of eight", x.feed(Check.packed("***1 1; "), 5), 13);
        due("one of eight", x.feed(Check.packed("******* "), 1), 14);
        due("none below 0 comes of the highest bits", x.feed(-1L << 8 | ' ', 1), 15);
        due("valley()", x.valley(), 0);
        says("the highest of them first, ");
        Check.feed(x, "knitters 1 1;");
        x.feed(Check.packed("**** x"), 2);
        due("the place of x", x.valley(), -1000114);
        says("come behind the tape: how many it has.");
        for (int n = 1; n <= 8; n++) {
            due(n + " more", x.feed(0, n), n * (n + 1) / 2);
        }
        due("bytes", x.count(7), 36);
        says("BAD: n; ");
        dueOfAll("feed(32, n)", BAD, n -> x.feed(32, n), 0, 9, -1, 400, LEAST, GREATEST);
        due("bytes then", x.count(7), 36);
        says("FULL: none comes.");
        Check.feed(x, " ".repeat(360));
        due("five more where four have room", x.feed(32, 5), FULL);
        due("eight more where four have room", x.feed(32, 8), FULL);
        due("bytes then", x.count(7), 396);
        due("four more", x.feed(32, 4), 400);
        due("one more", x.feed(32, 1), FULL);
    }

    private void lookAtPromise7Valley() {
        section("Promise 7");
        says("The tape, empty then, is read: ");
        WoolTells x = Check.told("knitters 1 1;");
        due("bytes then", x.count(7), 0);
        due("valley() of an empty tape", x.valley(), -1000100);
        Check.feed(x, "knitters 1");
        x.valley();
        due("bytes behind a fault", x.count(7), 0);
        Check.feed(x, " 1;");
        due("what was fed ahead is read no more", x.valley(), -1000101);
        Check.feed(x, "knitters 1 1; wool cap 0 30;");
        x.valley();
        Check.feed(x, "knitters 1 1; wool cap 0 3");
        due("a text ends where it was fed to", x.valley(), -1000126);
        Check.feed(x, "knitters 1 1; wool ca");
        due("a name ends there, too", x.valley(), -1000119);
        says("how many WOOLS there are.");
        due("of no wool", tell(x, "knitters 1 1;"), 0);
        due("of one", tell(x, "knitters 1 1;wool cap 0 1;"), 1);
        due("of seven", tell(x, SEVEN), 7);
        says("-1000100 less the place of a FAULT: ");
        due("at place 0", tell(x, "x"), -1000100);
        due("at place 1", tell(x, " x"), -1000101);
        due("at place 400", tell(x, " ".repeat(400)), -1000500);
        says("all but the tape, and what fault() tells, stays.");
        tell(x, SORTS + "saying 0 0 0 1;saying 0 9 3 0;");
        x.image(1);
        x.knit(0, 30);
        x.row(0, 1, 3);
        x.ask(1, 0);
        x.set(0, 3, 0);
        tell(x, "?");
        String ahead = seen(x);
        due("a fault at the last token", tell(x, "knitters 1 1; wool cap 0 1; saying 0 0 0 1"), -1000142);
        dueAlike("all that is seen", seen(x), ahead);
        due("status()", x.status(), 2);
        due("undo()", x.undo(), 0);
        due("undone", x.wool(0, 0), 7);
        due("the row", x.drop(0), 3);
        due("the image", x.restore(1), 1);
    }

    private void lookAtPromise8Fault() {
        section("Promise 8");
        says("The number of the latest FAULT; ");
        WoolTells x = new WoolTells();
        tell(x, "x");
        due("of a token that cannot stand there", x.fault(), 1);
        tell(x, "knitters 0 1;");
        due("of a number not as told", x.fault(), 2);
        tell(x, SEVEN + "wool");
        due("of a wool more than there is room for", x.fault(), 3);
        tell(x, "knitters 1 1;");
        due("behind a text that has none", x.fault(), 3);
        x.valley();
        due("of an empty tape", x.fault(), 1);
        says("0 before one.");
        due("of a new object", new WoolTells().fault(), 0);
        due("behind a text that has none", Check.told(SORTS).fault(), 0);
    }
}
