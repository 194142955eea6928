/** The kinds, the asks and their trace, the counts. */
final class AskedEdges extends Edges {
    private static final int JERSEY = 0, SCARF = 1, CAP = 2, STOCKING = 3, NET = 4;

    AskedEdges(Check check, Document document) {
        super(check, document);
    }

    @Override
    void look() {
        lookAtKinds();
        lookAtSizes();
        lookAtMarks();
        lookAtWhichBodyBegins();
        lookAtPromise24Kind();
        lookAtPromise25As();
        lookAtPromise26Ask();
        lookAtPromise27Trace();
        lookAtPromise28Count();
        lookAtPromise28CountOfAllElse();
        end();
    }

    private void lookAtKinds() {
        section("Terms");
        WoolTells x = Check.told(SORTS);
        says("KINDS of WOOLS: 0 WOOL; ");
        for (int w = 0; w < 5; w++) {
            due("as(" + w + ", 0)", x.as(w, 0), w);
        }
        says("1 JERSEY, a WOOL; ");
        dueIs(x, 1, JERSEY, SCARF, CAP);
        says("2 SCARF, a JERSEY; ");
        dueIs(x, 2, SCARF);
        says("3 CAP, a JERSEY; ");
        dueIs(x, 3, CAP);
        says("4 STOCKING, a WOOL; ");
        dueIs(x, 4, STOCKING, NET);
        says("5 NET, a STOCKING. ");
        dueIs(x, 5, NET);
        says("By this it is asked.");
        dueAsk(x, CAP, 0, 3 + 2 + 4 - 1000, 11, 10, 22, 21, 20);
        dueAsk(x, NET, 1, 4 - 2 * (5 - 100), 23, 20, 14, 13, 10);
    }

    /** Which WOOLS are of a KIND, and that no other one is. */
    private void dueIs(WoolTells x, int kind, int... wools) {
        for (int w = 0; w < 5; w++) {
            int want = KIND;
            for (int one : wools) {
                want = one == w ? w : want;
            }
            due("as(" + w + ", " + kind + ")", x.as(w, kind), want);
        }
    }

    private void lookAtSizes() {
        section("Terms");
        WoolTells x = Check.told(SORTS);
        says("ASKS of WOOLS, by BODIES, each of which leaves its number in THE TRACE as it begins ");
        x.ask(SCARF, 0);
        int[] begun = {12, 11, 10, 24, 21, 20};
        for (int i = 0; i < begun.length; i++) {
            due("trace(" + i + ")", x.trace(i), begun[i]);
        }
        says("(the first 16): ");
        due("trace(6), behind the last", x.trace(6), NONE);
        due("trace(15)", x.trace(15), NONE);
        due("trace(16)", x.trace(16), NONE);
        for (int n = 0; n < 9; n++) {
            x.ask(NET, 1);
        }
        due("trace(0) behind many asks", x.trace(0), 23);
        due("trace(5) behind many asks", x.trace(5), NONE);
        says("0 SIZE: 10 lent to all WOOLS: LONG. ");
        for (int w = 0; w < 5; w++) {
            x.ask(w, 0);
            due("10 is asked within", w == SCARF || w == NET ? x.trace(2) : x.trace(1), 10);
        }
        says("11 of JERSEYS: what 10 gives, and MARK. ");
        dueAsk(x, JERSEY, 0, 7 + 1, 11, 10, 21, 20);
        says("12 of SCARVES: 0 less what 11 gives. ");
        dueAsk(x, SCARF, 0, -(9 + 2 * (1 + 2)), 12, 11, 10, 24, 21, 20);
        says("13 of STOCKINGS: what 10 gives, less 100. ");
        dueAsk(x, STOCKING, 0, 4 - 100, 13, 10);
        says("14 of NETS: twice what 13 gives ");
        dueAsk(x, NET, 0, 2 * (5 - 100), 14, 13, 10);
        says("(asked once). ");
        x.ask(NET, 0);
        due("13 begins but once", x.trace(3), NONE);
        x.ask(SCARF, 1);
        due("21 begins but once", x.trace(3), NONE);
    }

    private void lookAtMarks() {
        section("Terms");
        WoolTells x = Check.told(SORTS);
        says("1 MARK: 20 lent to all WOOLS: its number. ");
        int[] at = {1, 2, 2, 1, 1};
        for (int w = 0; w < 5; w++) {
            x.ask(w, 1);
            due("20 is asked within, of wool " + w, x.trace(at[w]), 20);
        }
        says("21 of JERSEYS: what 20 gives, and MAKERS, as bits. ");
        dueAsk(x, JERSEY, 1, 1, 21, 20);
        WoolTells jerseys = Check.told("knitters 5 1;wool jersey 4 1;wool jersey 0 1;wool jersey 1 1;");
        dueAsk(jerseys, 0, 1, 16, 21, 20);
        // Of these the number and the makers are alike, as bits: so it is seen that they are added.
        dueAsk(jerseys, 1, 1, 1 + 1, 21, 20);
        dueAsk(jerseys, 2, 1, 2 + 2, 21, 20);
        jerseys.join(1, 0);
        dueAsk(jerseys, 1, 1, 1 + 17, 21, 20);
        says("22 of CAPS: what 21 gives, less 1000. ");
        dueAsk(x, CAP, 1, 2 + 4 - 1000, 22, 21, 20);
        says("23 of STOCKINGS: what 20 gives, less SIZE. ");
        dueAsk(x, STOCKING, 1, 3 - (4 - 100), 23, 20, 13, 10);
        says("24 of SCARVES: twice what 21 gives ");
        dueAsk(x, SCARF, 1, 2 * (1 + 2), 24, 21, 20);
        says("(asked once).");
        x.ask(SCARF, 0);
        due("21 begins but once", x.trace(6), NONE);
    }

    private void lookAtWhichBodyBegins() {
        section("Terms");
        WoolTells x = Check.told(SORTS);
        says("(Of an ask the BODY told for the KIND begins, ");
        int[][] first = {{11, 21}, {12, 24}, {11, 22}, {13, 23}, {14, 23}};
        for (int w : new int[] {JERSEY, SCARF, STOCKING}) {
            dueFirst(x, w, first[w]);
        }
        says("else that of the nearest KIND that it is, too, ");
        for (int w : new int[] {CAP, NET}) {
            dueFirst(x, w, first[w]);
        }
        says("else the one that is lent; ");
        x.ask(STOCKING, 0);
        due("10 is asked of a stocking", x.trace(1), 10);
        x.ask(STOCKING, 1);
        due("20 is asked of a stocking", x.trace(1), 20);
        says("SIZE, MARK within others are asked of the same WOOL anew.)");
        dueAsk(x, CAP, 0, 3 + (6 - 1000), 11, 10, 22, 21, 20);
        dueAsk(x, SCARF, 0, -(9 + 6), 12, 11, 10, 24, 21, 20);
        dueAsk(x, NET, 1, 4 - 2 * (5 - 100), 23, 20, 14, 13, 10);
    }

    private void dueFirst(WoolTells x, int wool, int[] bodies) {
        for (int what = 0; what < 2; what++) {
            x.ask(wool, what);
            due("the body that begins by ask(" + wool + ", " + what + ")", x.trace(0), bodies[what]);
        }
    }

    private void lookAtPromise24Kind() {
        section("Promise 24");
        says("The KIND of a WOOL, as told (1 to 5). ");
        WoolTells x = Check.told(SORTS);
        for (int w = 0; w < 5; w++) {
            due("kind(" + w + ")", x.kind(w), w + 1);
        }
        x.as(NET, 0);
        due("kind() of one taken as another", x.kind(NET), 5);
        x.join(NET, CAP);
        due("kind() of one knit to another", x.kind(NET), 5);
        due("kind() of one that is gone", x.kind(CAP), 3);
        says("BAD.");
        dueOfAll("kind(n)", BAD, x::kind, -1, 5, 6, 7, LEAST, GREATEST);
        due("kind(0) without a valley", new WoolTells().kind(0), BAD);
        due("kind(6) of seven", Check.told("knitters 1 1;" + "wool net0 1;".repeat(7)).kind(6), 5);
    }

    private void lookAtPromise25As() {
        section("Promise 25");
        says("A WOOL is taken as one of a KIND (0 .. 5): the WOOL's number. ");
        WoolTells x = Check.told(SORTS);
        due("as(4, 0)", x.as(NET, 0), NET);
        due("as(4, 4)", x.as(NET, 4), NET);
        due("as(4, 5)", x.as(NET, 5), NET);
        x.unpick(CAP, 99);
        due("as(2, 3), gone", x.as(CAP, 3), CAP);
        says("BAD; ");
        dueOfAll("as(n, 0)", BAD, n -> x.as(n, 0), -1, 5, 7, LEAST, GREATEST);
        dueOfAll("as(0, n)", BAD, n -> x.as(0, n), -1, 6, LEAST, GREATEST);
        due("as(0, 0) without a valley", new WoolTells().as(0, 0), BAD);
        says("KIND: it is no such one.");
        due("as(0, 2): a jersey is no scarf", x.as(JERSEY, 2), KIND);
        due("as(1, 3): a scarf is no cap", x.as(SCARF, 3), KIND);
        due("as(3, 5): a stocking is no net", x.as(STOCKING, 5), KIND);
        due("as(4, 1): a net is no jersey", x.as(NET, 1), KIND);
        due("status()", x.status(), 3);
    }

    private void lookAtPromise26Ask() {
        section("Promise 26");
        says("An ASK (0, 1) of a WOOL. ");
        WoolTells x = Check.told(SORTS);
        due("ask(0, 0)", x.ask(JERSEY, 0), 8);
        due("ask(0, 1)", x.ask(JERSEY, 1), 1);
        x.unpick(STOCKING, 99);
        due("ask(3, 0), gone", x.ask(STOCKING, 0), -100);
        due("ask(3, 1), gone", x.ask(STOCKING, 1), 103);
        says("BAD. ");
        dueOfAll("ask(n, 0)", BAD, n -> x.ask(n, 0), -1, 5, 7, LEAST, GREATEST);
        dueOfAll("ask(0, n)", BAD, n -> x.ask(0, n), -1, 2, LEAST, GREATEST);
        due("ask(0, 0) without a valley", new WoolTells().ask(0, 0), BAD);
        says("THE TRACE is empty ahead of it ");
        x.ask(SCARF, 0);
        dueAsk(x, JERSEY, 1, 1, 21, 20);
        says("(where that is refused it stays).");
        x.ask(5, 0);
        due("trace(0)", x.trace(0), 21);
        x.ask(0, 2);
        due("trace(1)", x.trace(1), 20);
        due("trace(2)", x.trace(2), NONE);
    }

    private void lookAtPromise27Trace() {
        section("Promise 27");
        says("Number i of THE TRACE; ");
        WoolTells x = Check.told(SORTS);
        x.ask(SCARF, 0);
        due("trace(0)", x.trace(0), 12);
        due("trace(5)", x.trace(5), 20);
        x.knit(0, 1);
        x.as(0, 5);
        x.kind(0);
        due("trace(0) behind other calls", x.trace(0), 12);
        says("NONE.");
        dueOfAll("trace(n)", NONE, x::trace, 6, 7, 15, 16, 17, -1, LEAST, GREATEST);
        due("trace(0) of a new object", new WoolTells().trace(0), NONE);
        due("trace(0) ahead of an ask", Check.told(SORTS).trace(0), NONE);
    }

    private void lookAtPromise28Count() {
        section("Promise 28");
        WoolTells x = Check.told(SORTS + "saying 0 0 0 0;saying 1 0 0 1;saying 2 9 1 1;");
        says("How many: 0 ROWS, ");
        x.row(0, 0, 0);
        x.row(7, 2, 40);
        x.row(7, 1, 1);
        due("count(0)", x.count(0), 2);
        x.drop(0);
        due("count(0)", x.count(0), 1);
        says("1 KNITTERS, ");
        due("count(1)", x.count(1), 3);
        says("2 WOOLS, ");
        due("count(2)", x.count(2), 5);
        x.unpick(NET, 99);
        due("count(2), one is gone", x.count(2), 5);
        says("3 SAYINGS, ");
        due("count(3)", x.count(3), 3);
        says("4 ACTS that can be undone, ");
        due("count(4)", x.count(4), 1);
        x.knit(0, 3);
        due("count(4)", x.count(4), 2);
        x.undo();
        due("count(4)", x.count(4), 1);
    }

    private void lookAtPromise28CountOfAllElse() {
        section("Promise 28");
        WoolTells x = Check.told(SORTS + "saying 0 0 0 0;saying 1 0 0 1;saying 2 9 1 1;");
        says("5 lines of all WOOLS, ");
        due("count(5)", x.count(5), 7 + 9 + 3 + 4 + 5);
        x.knit(1, 30);
        x.unpick(NET, 99);
        due("count(5)", x.count(5), 7 + 39 + 3 + 4);
        says("6 BOUND SAYINGS, ");
        due("count(6)", x.count(6), 2);
        x.unpick(0, 7);
        due("count(6)", x.count(6), 3);
        says("7 bytes on the tape. ");
        due("count(7)", x.count(7), 0);
        x.feed(0, 8);
        x.feed(0, 1);
        due("count(7)", x.count(7), 9);
        x.valley();
        due("count(7)", x.count(7), 0);
        says("BAD.");
        dueOfAll("count(n)", BAD, x::count, -1, 8, LEAST, GREATEST);
        dueOfAll("count(n) of a new object", BAD, new WoolTells()::count, -1, 8);
    }
}
