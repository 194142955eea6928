/** What is foretold: sayings, wools to unpick, to wear, to bid for; images. */
final class ForetoldEdges extends Edges {
    ForetoldEdges(Check check, Document document) {
        super(check, document);
    }

    @Override
    void look() {
        lookAtWhatChangesNothing();
        lookAtBoundAndKnown();
        lookAtWorldsAndLies();
        lookAtUnpickedOut();
        lookAtFirstFalse();
        lookAtWhoWears();
        lookAtTheFirstRowOfWear();
        lookAtBids();
        lookAtPromise16Known();
        lookAtPromise17Worlds();
        lookAtPromise18Out();
        lookAtPromise19FirstFalse();
        lookAtPromise20Wear();
        lookAtPromise21Bids();
        lookAtPromise21BidsRefused();
        lookAtPromise22Image();
        lookAtPromise23Restore();
        end();
    }

    private void lookAtWhatChangesNothing() {
        section("Terms");
        says("FORETOLD (nothing changes). ");
        WoolTells x = Check.told("knitters 2 2;wool jersey 0 3;wool net 1 4;saying 0 0 0 1;saying 1 0 1 1;saying 1 1 1 0;");
        fill(x, 0, 7, 5);
        x.knit(0, 1);
        x.ask(0, 0);
        String ahead = seen(x);
        due("known(0)", x.known(0), -1);
        due("worlds(0)", x.worlds(0), 2);
        due("worlds(1)", x.worlds(1), 4);
        due("out(0, 0)", x.out(0, 0), 4);
        due("out(0, 1)", x.out(0, 1), 1);
        due("firstFalse()", x.firstFalse(), NONE);
        dueWear(x, 3, 4, -1, 0);
        dueBids(x, 0, 0, 0, 5);
        dueAlike("all that is seen", seen(x), ahead);
        dueBids(x, 0, 0, 0, 5);
        due("undo()", x.undo(), 0);
        dueLines(x, 3, 4);
    }

    private void lookAtBoundAndKnown() {
        section("Terms");
        says("A SAYING is BOUND, if WHO said it MAY not LIE in its WOOL, ");
        WoolTells x = Check.told("knitters 2 4;wool cap 0 2;wool net 1 1;wool stocking 0 3;"
                + "saying 0 0 0 1;saying 1 0 1 0;saying 0 1 2 1;saying 0 9 3 1;saying 0 2 0 1;");
        int[] bound = {0, 1, 0, 1, 1};
        for (int s = 0; s < 5; s++) {
            due("saying(" + s + ", 4)", x.saying(s, 4), bound[s]);
        }
        says("as that is now. ");
        x.knit(2, 1);
        due("in a stocking of an even number", x.saying(4, 4), 0);
        x.unpick(0, 2);
        due("in a wool that is gone", x.saying(0, 4), 1);
        x.undo();
        due("in that undone", x.saying(0, 4), 0);
        x.join(1, 0);
        due("in a wool knit to another", x.saying(0, 4), 1);
        WoolTells two = Check.told("knitters 2 1;wool cap 0 2;wool cap 1 2;saying 1 0 0 1;");
        two.join(0, 1);
        due("by a maker since", two.saying(0, 4), 0);
        says("KNOWN of a FACT: 1, 0, as all BOUND SAYINGS of it say; ");
        WoolTells known = Check.told("knitters 1 6;wool cap 0 2;saying 0 9 0 1;saying 0 9 1 0;saying 0 9 2 1;"
                + "saying 0 9 2 1;saying 0 0 2 0;saying 0 9 3 0;saying 0 9 3 1;saying 0 0 4 1;");
        due("of one that says so", known.known(0), 1);
        due("of one that says not", known.known(1), 0);
        due("of two that say so, one not bound that says not", known.known(2), 1);
        says("-1: there is none; ");
        due("of none that is bound", known.known(4), -1);
        due("of none at all", known.known(5), -1);
        says("-2: they say both. ");
        due("of two", known.known(3), -2);
        known.unpick(0, 2);
        due("of three, one bound since", known.known(2), -2);
    }

    private void lookAtWorldsAndLies() {
        section("Terms");
        says("WORLDS: ways for all FACTS to be so, or not, in which all BOUND SAYINGS are true: how many. ");
        due("of a fact nobody spoke of", Check.told("knitters 1 1;").worlds(0), 2);
        due("of six", Check.told("knitters 1 6;").worlds(0), 64);
        due("of a fact that is known", Check.told("knitters 1 1;saying 0 9 0 0;").worlds(0), 1);
        due("of six, the last known twice", Check.told("knitters 1 6;saying 0 9 5 0;saying 0 9 5 0;").worlds(0), 32);
        due("of one told both", Check.told("knitters 1 6;saying 0 9 5 0;saying 0 9 5 1;").worlds(0), 0);
        due("of one told by none bound", Check.told("knitters 1 2;wool cap 0 2;saying 0 0 1 0;").worlds(0), 4);
        due("of all six known", Check.told("knitters 1 6;saying 0 9 0 0;saying 0 9 1 0;saying 0 9 2 0;"
                + "saying 0 9 3 1;saying 0 9 4 0;saying 0 9 5 0;").worlds(0), 1);
        says("LIES: SAYINGS (bits), not BOUND, ");
        due("the one that is not bound", Check.told("knitters 1 2;wool cap 0 2;saying 0 9 0 1;saying 0 0 0 0;").worlds(1), 2);
        due("one told first", Check.told("knitters 1 2;wool cap 0 2;saying 0 0 0 0;saying 0 9 0 1;").worlds(1), 1);
        due("a true one that is not bound", Check.told("knitters 1 2;wool cap 0 2;saying 0 9 0 1;saying 0 0 0 1;").worlds(1), 0);
        due("twelve, the first bound", Check.told("knitters 1 1;wool cap0 2;saying0 9 0 1;"
                + "saying0 0 0 0;".repeat(11)).worlds(1), 4095 - 1);
        says("that are untrue in all of WORLDS ");
        due("of a fact that is not known", Check.told("knitters 1 2;wool cap 0 2;saying 0 0 0 1;saying 0 0 0 0;").worlds(1), 0);
        due("of one of two facts", Check.told("knitters 1 2;wool cap 0 2;saying 0 0 1 1;saying 0 0 0 1;"
                + "saying 0 9 0 0;").worlds(1), 2);
        says("(0 if there is none).");
        due("where there is no world", Check.told("knitters 1 2;wool cap 0 2;saying 0 9 1 1;saying 0 9 1 0;"
                + "saying 0 9 0 1;saying 0 0 0 0;").worlds(1), 0);
        due("where there is no saying", Check.told("knitters 1 1;").worlds(1), 0);
    }

    private void lookAtUnpickedOut() {
        section("Terms");
        says("UNPICKED out: the fewest lines of some WOOLS (bits), UNPICKED wholly, ");
        dueOut(Check.told("knitters 1 1;wool cap 0 9;wool cap 0 4;wool cap 0 5;"
                + "saying 0 0 0 1;saying 0 1 0 1;saying 0 2 0 1;"), 0, 4, 2);
        dueOut(Check.told("knitters 1 1;" + "wool cap0 1;".repeat(6) + "wool net0 30;saying0 6 0 0;"), 0, 30, 64);
        WoolTells long99 = Check.told("knitters 1 1;wool cap 0 30;saying 0 0 0 1;");
        long99.knit(0, 30);
        long99.knit(0, 30);
        long99.knit(0, 9);
        dueOut(long99, 0, 99, 1);
        WoolTells stocking = Check.told("knitters 1 1;wool stocking 0 30;saying 0 0 0 1;");
        dueOut(stocking, 0, 30, 1);
        says("by which a FACT is KNOWN (0, 1), ");
        dueOut(Check.told("knitters 1 1;wool cap 0 1;saying 0 0 0 0;"), 0, 1, 1);
        dueOut(Check.told("knitters 1 1;wool cap 0 1;wool cap 0 2;saying 0 0 0 0;saying 0 0 0 1;saying 0 1 0 1;"), 0, 2, 2);
        dueOut(Check.told("knitters 1 1;wool cap 0 1;saying 0 9 0 1;saying 0 0 0 0;"), 0, 0, 0);
        stocking.knit(0, 1);
        dueOut(stocking, 0, 0, 0);
        says("and there is one of WORLDS at least: ");
        WoolTells two = Check.told("knitters 1 2;wool cap 0 1;wool cap 0 7;saying 0 9 1 1;saying 0 0 0 1;"
                + "saying 0 0 1 0;saying 0 1 0 0;");
        dueOut(two, 0, 7, 2);
        dueOut(Check.told("knitters 1 2;wool cap 0 1;saying 0 9 0 1;saying 0 9 1 1;saying 0 9 1 0;"), 0, NONE, NONE);
        says("how many; ");
        due("out(0, 0)", two.out(0, 0), 7);
        says("of several the least set; ");
        dueOut(Check.told("knitters 1 1;wool cap 0 3;wool cap 0 3;wool cap 0 3;"
                + "saying 0 2 0 1;saying 0 1 0 1;"), 0, 3, 2);
        WoolTells gone = Check.told("knitters 1 1;wool cap 0 3;wool cap 0 3;saying 0 9 0 1;saying 0 1 0 1;");
        gone.unpick(0, 3);
        dueOut(gone, 0, 0, 0);
        says("NONE. ");
        dueOut(Check.told("knitters 1 2;wool cap 0 3;saying 0 0 1 1;"), 0, NONE, NONE);
        dueOut(Check.told("knitters 1 1;"), 0, NONE, NONE);
        dueOut(Check.told("knitters 1 1;wool cap 0 3;saying 0 0 0 1;saying 0 0 0 0;"), 0, NONE, NONE);
        dueOut(Check.told("knitters 1 1;saying 0 9 0 1;saying 0 9 0 0;"), 0, NONE, NONE);
    }

    private void dueOut(WoolTells x, int fact, int lines, int set) {
        due("out(" + fact + ", 0)", x.out(fact, 0), lines);
        due("out(" + fact + ", 1)", x.out(fact, 1), set);
    }

    private void lookAtFirstFalse() {
        section("Terms");
        says("FIRST FALSE: of SAYINGS, one behind another, the first BOUND one ");
        WoolTells x = Check.told("knitters 1 2;wool cap 0 2;saying 0 9 0 1;saying 0 0 0 0;saying 0 9 1 1;"
                + "saying 0 9 0 0;saying 0 9 1 0;saying 0 9 0 0;");
        due("the first of three", x.firstFalse(), 3);
        says("that says else than a BOUND one ahead of it; ");
        x.unpick(0, 2);
        due("one that is bound since", x.firstFalse(), 1);
        due("else than one that is not bound", Check.told("knitters 1 1;wool cap 0 2;saying 0 0 0 1;"
                + "saying 0 9 0 0;").firstFalse(), NONE);
        due("else of another fact", Check.told("knitters 1 2;saying 0 9 0 1;saying 0 9 1 0;").firstFalse(), NONE);
        due("else than one far ahead", Check.told("knitters 1 2;saying 0 9 0 1;saying 0 9 1 0;saying 0 9 1 0;"
                + "saying 0 9 0 0;").firstFalse(), 3);
        due("the twelfth", Check.told("knitters 1 1;" + "saying0 9 0 1;".repeat(11) + "saying0 9 0 0;").firstFalse(), 11);
        says("NONE.");
        due("where all say alike", Check.told("knitters 1 1;saying 0 9 0 1;saying 0 9 0 1;").firstFalse(), NONE);
        due("where there is one", Check.told("knitters 1 1;saying 0 9 0 1;").firstFalse(), NONE);
        due("where there is none", Check.told("knitters 1 1;").firstFalse(), NONE);
    }

    private void lookAtWhoWears() {
        section("Terms");
        says("WEAR: each KNITTER may wear a WOOL that is not gone, ");
        WoolTells x = Check.told("knitters 2 1;wool cap 0 9;wool cap 1 5;wool cap 1 1;");
        x.unpick(0, 9);
        dueWear(x, 0, 7 + 3, 1, 2);
        says("or none (-1), ");
        x.unpick(1, 5);
        dueWear(x, 0, 3, -1, 2);
        x.unpick(2, 1);
        dueWear(x, 0, 0, -1, -1);
        dueWear(Check.told("knitters 5 1;"), 31, 0, -1, -1, -1, -1, -1);
        says("no WOOL two of them; ");
        dueWear(Check.told("knitters 3 1;wool cap 0 9;wool cap 1 8;"), 0, 21, -1, 0, 1);
        dueWear(Check.told("knitters 5 1;wool cap 0 9;"), 0, 11, -1, -1, -1, -1, 0);
        dueWear(Check.told("knitters 1 1;wool cap 0 8;wool cap 0 9;wool cap 0 7;"), 0, 11, 1);
        says("told KNITTERS (bits) may not wear one in which they MAY LIE: ");
        WoolTells own = Check.told("knitters 3 1;wool cap 0 9;wool cap 1 9;wool cap 2 9;");
        dueWear(own, 0, 33, 0, 1, 2);
        dueWear(own, 1, 33, 1, 0, 2);
        dueWear(own, 2, 33, 0, 2, 1);
        dueWear(own, 4, 33, 0, 2, 1);
        dueWear(own, 7, 33, 1, 2, 0);
        own.unpick(1, 9);
        own.unpick(2, 9);
        dueWear(own, 1, 11, -1, -1, 0);
        dueWear(own, 6, 11, -1, -1, 0);
        WoolTells stocking = Check.told("knitters 1 1;wool stocking 0 29;wool net 0 30;");
        dueWear(stocking, 1, 29, 0);
        stocking.knit(0, 1);
        dueWear(stocking, 1, 0, -1);
        dueWear(stocking, 0, 30, 0);
        WoolTells both = Check.told("knitters 2 1;wool cap 0 9;wool cap 1 9;");
        both.join(0, 1);
        dueWear(both, 3, 0, -1, -1);
        dueWear(both, 1, 20, -1, 0);
        dueWear(both, 2, 20, 0, -1);
    }

    private void lookAtTheFirstRowOfWear() {
        section("Terms");
        says("so that what is WARM of all, added, is most: how much; ");
        WoolTells x = Check.told("knitters 5 1;wool jersey0 1;wool scarf0 8;wool cap0 1;wool stocking0 7;"
                + "wool net0 30;wool jersey1 2;wool cap1 7;");
        dueWear(x, 0, 9 + 7 + 4 + 3 + 2, 1, 2, 3, 5, 6);
        dueWear(Check.told("knitters 2 1;wool cap 1 7;wool jersey 0 8;"), 1, 17, 0, 1);
        dueWear(Check.told("knitters 2 1;wool cap 1 7;wool jersey 0 8;"), 2, 17, 0, 1);
        dueWear(Check.told("knitters 2 1;wool cap 0 1;wool jersey 1 8;"), 2, 11, 1, 0);
        // The second may wear but the first one's: so the first gives that to him, though it is the warmer one.
        dueWear(Check.told("knitters 2 1;wool cap 0 9;wool cap 1 5;"), 2, 18, 1, 0);
        WoolTells most = Check.told("knitters 5 1;" + "wool cap0 30;".repeat(5));
        for (int w = 0; w < 5; w++) {
            most.knit(w, 30);
            most.knit(w, 30);
            most.knit(w, 9);
        }
        dueWear(most, 0, 5 * 101, 0, 1, 2, 3, 4);
        tell(most, "knitters 2 1;wool cap 0 1;wool jersey 0 3;wool jersey 1 3;");
        dueWear(most, 0, 6, 0, 1);
        dueWear(most, 3, 6, 2, 0);
        says("the row, of several the first (-1 ahead of 0). ");
        dueWear(Check.told("knitters 1 1;wool net 0 9;wool scarf 0 1;"), 0, 0, -1);
        dueWear(Check.told("knitters 2 1;wool net 0 9;wool cap 0 9;"), 0, 11, -1, 1);
        dueWear(Check.told("knitters 2 1;wool jersey 0 9;wool jersey 0 9;wool jersey 0 9;"), 0, 18, 0, 1);
        dueWear(Check.told("knitters 2 1;wool jersey 0 9;wool cap 0 7;wool scarf 0 18;"), 0, 18, 0, 1);
        dueWear(Check.told("knitters 3 1;wool jersey 0 9;wool jersey 0 9;"), 0, 18, -1, 0, 1);
        dueWear(Check.told("knitters 3 1;wool jersey 2 9;wool jersey 2 9;"), 4, 18, 0, 1, -1);
    }

    private void lookAtBids() {
        section("Terms");
        says("BIDS: a row tells what each KNITTER would give at most (0 to 999) for a WOOL; ");
        dueBid(0, 1, 999, 0);
        dueBid(0, 999, 999, 999);
        dueBid(3, 999, 999, 999, 999, 999, 999);
        dueBid(1, 998, 998, 998);
        says("one after another, from KNITTER 0 on, ");
        dueBid(0, 1, 1, 1);
        dueBid(1, 2, 2, 2);
        dueBid(0, 3, 5, 2);
        dueBid(2, 3, 3, 3, 3);
        says("round by round, ");
        dueBid(0, 3, 3, 3);
        dueBid(0, 3, 3, 2);
        dueBid(1, 4, 3, 4);
        dueBid(2, 6, 5, 6, 8);
        dueBid(0, 3, 3, 0, 3);
        says("each who did not make the latest bid ");
        dueBid(0, 1, 999);
        dueBid(0, 1, 999, 1);
        dueBid(2, 1, 0, 0, 500);
        says("bids 1 more than that (1 at first), ");
        dueBid(0, 1, 1, 0);
        dueBid(1, 2, 2, 9);
        dueBid(0, 5, 9, 5);
        says("if he would give as much; ");
        dueBid(1, 2, 1, 2);
        dueBid(0, 1, 2, 1);
        dueBid(2, 2, 1, 1, 2);
        says("till in a round nobody bids: ");
        dueBid(4, 7, 1, 0, 7, 0, 8);
        dueBid(0, 7, 8, 0, 7, 0, 0);
        says("who has made the latest one, how much it is; ");
        dueBid(4, 1, 0, 0, 0, 0, 9);
        says("NONE: nobody did.");
        dueBid(NONE, NONE, 0);
        dueBid(NONE, NONE, 0, 0, 0, 0, 0);
    }

    /** By a ROW of as many ITEMS as there are KNITTERS. */
    private void dueBid(int who, int much, int... most) {
        WoolTells x = Check.told("knitters " + most.length + " 1;");
        fill(x, 0, most);
        dueBids(x, 0, 0, who, much);
    }

    private void lookAtPromise16Known() {
        section("Promise 16");
        says("KNOWN. ");
        WoolTells x = Check.told("knitters 1 4;wool cap 0 1;saying 0 9 0 1;saying 0 9 1 0;saying 0 0 2 1;saying 0 9 3 1;"
                + "saying 0 9 3 0;");
        int[] known = {1, 0, -1, -2};
        for (int fact = 0; fact < 4; fact++) {
            due("known(" + fact + ")", x.known(fact), known[fact]);
        }
        says("BAD.");
        dueOfAll("known(n)", BAD, x::known, -1, 4, 5, 6, 32, LEAST, GREATEST);
        due("known(5) of six", Check.told("knitters 1 6;").known(5), -1);
        due("known(6) of six", Check.told("knitters 1 6;").known(6), BAD);
        due("known(0) without a valley", new WoolTells().known(0), BAD);
    }

    private void lookAtPromise17Worlds() {
        section("Promise 17");
        says("WORLDS (what = 0), LIES (1). ");
        WoolTells x = Check.told("knitters 1 3;wool cap 0 1;saying 0 9 0 1;saying 0 0 0 0;");
        due("worlds(0)", x.worlds(0), 4);
        due("worlds(1)", x.worlds(1), 2);
        says("BAD; ");
        dueOfAll("worlds(n)", BAD, x::worlds, -1, 2, LEAST, GREATEST);
        says("STATE: no VALLEY (ahead of BAD).");
        dueOfAll("worlds(n) without a valley", STATE, new WoolTells()::worlds, 0, 1, 2, -1);
    }

    private void lookAtPromise18Out() {
        section("Promise 18");
        says("UNPICKED out: lines (what = 0), the set (1); ");
        WoolTells x = Check.told("knitters 1 3;wool cap 0 1;wool cap 0 5;saying 0 1 0 0;saying 0 9 1 1;");
        dueOut(x, 0, 5, 2);
        dueOut(x, 1, 0, 0);
        says("NONE. ");
        dueOut(x, 2, NONE, NONE);
        says("BAD.");
        dueOfAll("out(n, 0)", BAD, n -> x.out(n, 0), -1, 3, 6, LEAST, GREATEST);
        dueOfAll("out(0, n)", BAD, n -> x.out(0, n), -1, 2, LEAST, GREATEST);
        due("out(2, 2), NONE otherwise", x.out(2, 2), BAD);
        due("out(0, 0) without a valley", new WoolTells().out(0, 0), BAD);
    }

    private void lookAtPromise19FirstFalse() {
        section("Promise 19");
        says("FIRST FALSE; ");
        due("firstFalse()", Check.told("knitters 1 1;saying 0 9 0 0;saying 0 9 0 1;").firstFalse(), 1);
        says("NONE. ");
        due("firstFalse() of one", Check.told("knitters 1 1;saying 0 9 0 0;").firstFalse(), NONE);
        says("STATE: no VALLEY.");
        due("firstFalse() without a valley", new WoolTells().firstFalse(), STATE);
    }

    private void lookAtPromise20Wear() {
        section("Promise 20");
        says("WEAR: WARM of all (k = -1), what KNITTER k wears. ");
        WoolTells x = Check.told("knitters 2 1;wool cap 0 1;wool cap 1 2;");
        dueWear(x, 0, 7, 0, 1);
        dueWear(x, 3, 7, 1, 0);
        says("BAD; ");
        dueOfAll("wear(0, n)", BAD, n -> x.wear(0, n), -2, 2, 3, LEAST, GREATEST);
        dueOfAll("wear(n, -1), of no such knitters", BAD, n -> x.wear(n, -1), -1, 4, 7, LEAST, GREATEST);
        due("wear(31, 4) of five", Check.told("knitters 5 1;").wear(31, 4), -1);
        due("wear(32, 4) of five", Check.told("knitters 5 1;").wear(32, 4), BAD);
        due("wear(31, 5) of five", Check.told("knitters 5 1;").wear(31, 5), BAD);
        says("STATE: no VALLEY (ahead of BAD).");
        dueOfAll("wear(n, n) without a valley", STATE, n -> new WoolTells().wear(n, n), 0, -1, 1, 99);
        due("wear(0, -2) without a valley", new WoolTells().wear(0, -2), STATE);
    }

    private void lookAtPromise21Bids() {
        section("Promise 21");
        says("BIDS, as many ITEMS as there are KNITTERS, of a ROW from i on: ");
        WoolTells x = Check.told("knitters 3 1;");
        fill(x, 7, 9, 3, 5, 2, 999, -1, 0, 1, 1, 0);
        dueBids(x, 7, 0, 0, 6);
        dueBids(x, 7, 1, 1, 4);
        dueBids(x, 7, 7, 0, 1);
        dueBids(x, 7, 6, 1, 1);
        says("who (what = 0), how much (1); ");
        due("bids(7, 2, 0)", x.bids(7, 2, 0), 2);
        due("bids(7, 2, 1)", x.bids(7, 2, 1), 5);
        says("NONE. ");
        x.row(6, 0, 3);
        dueBids(x, 6, 0, NONE, NONE);
        tell(x, "knitters 5 1;");
        dueBids(x, 7, 0, 4, 10);
        dueBids(x, 7, 1, BAD, BAD);
        x.row(6, 0, 40);
        dueBids(x, 6, 35, NONE, NONE);
        dueBids(x, 6, 36, PLACE, PLACE);
    }

    private void lookAtPromise21BidsRefused() {
        section("Promise 21");
        WoolTells x = Check.told("knitters 2 1;");
        fill(x, 0, 1, 2, 1000, 3);
        says("BAD: ROW, ");
        dueOfAll("bids(n, 0, 0)", BAD, n -> x.bids(n, 0, 0), -1, 8, LEAST, GREATEST);
        says("what; ");
        dueOfAll("bids(0, 0, n)", BAD, n -> x.bids(0, 0, n), -1, 2, LEAST, GREATEST);
        due("bids(1, 0, 2) of a missing row", x.bids(1, 0, 2), BAD);
        says("STATE: no VALLEY (ahead of BAD); ");
        WoolTells none = new WoolTells();
        dueOfAll("bids(n, n, n) without a valley", STATE, n -> none.bids(n, n, n), 0, 8, -1);
        none.row(0, 0, 1);
        none.set(0, 0, -1);
        due("bids(0, 0, 0) without a valley", none.bids(0, 0, 0), STATE);
        says("NULL; ");
        due("bids(1, 0, 0)", x.bids(1, 0, 0), NULL);
        due("bids(1, -1, 1)", x.bids(1, -1, 1), NULL);
        says("PLACE; ");
        dueOfAll("bids(0, n, 0)", PLACE, n -> x.bids(0, n, 0), -1, 3, 4, 5, LEAST, GREATEST, GREATEST - 1);
        x.row(2, 0, 1);
        due("of a row shorter than there are knitters", x.bids(2, 0, 0), PLACE);
        x.row(2, 0, 0);
        due("of a row of none", x.bids(2, 0, 0), PLACE);
        x.set(0, 3, -5);
        due("ahead of an item", x.bids(0, 3, 0), PLACE);
        says("then BAD: an ITEM not 0 to 999.");
        due("1000 behind", x.bids(0, 1, 0), BAD);
        due("1000 first", x.bids(0, 2, 0), BAD);
        dueBids(x, 0, 0, 1, 2);
        x.set(0, 2, 999);
        dueBids(x, 0, 1, 1, 2);
        due("-5", x.bids(0, 2, 1), BAD);
        x.set(0, 3, GREATEST);
        due("the greatest", x.bids(0, 2, 1), BAD);
        x.set(0, 3, LEAST);
        due("the least", x.bids(0, 2, 1), BAD);
    }

    private void lookAtPromise22Image() {
        section("Promise 22");
        says("An IMAGE (0, 1) is kept of the VALLEY: 1. ");
        WoolTells x = Check.told("knitters 1 1;wool cap 0 5;");
        due("image(0)", x.image(0), 1);
        x.knit(0, 1);
        due("image(1)", x.image(1), 1);
        due("acts stay", x.count(4), 1);
        x.knit(0, 1);
        dueLines(x, 7);
        x.restore(0);
        dueLines(x, 5);
        x.restore(1);
        dueLines(x, 6);
        due("image(0) in place of one before", x.image(0), 1);
        x.unpick(0, 99);
        x.restore(0);
        dueLines(x, 6);
        says("BAD; ");
        dueOfAll("image(n)", BAD, x::image, -1, 2, LEAST, GREATEST);
        due("image(2) without a valley", new WoolTells().image(2), BAD);
        says("STATE: no VALLEY.");
        WoolTells none = new WoolTells();
        due("image(0) without a valley", none.image(0), STATE);
        due("image(1) without a valley", none.image(1), STATE);
        due("none was kept", none.restore(0), STATE);
        tell(none, "x");
        due("image(0) behind a fault", none.image(0), STATE);
    }

    private void lookAtPromise23Restore() {
        section("Promise 23");
        says("The VALLEY is as an IMAGE kept it ");
        WoolTells x = Check.told(SORTS + "saying 0 0 0 1;saying 1 9 3 0;");
        x.join(0, 1);
        x.image(1);
        x.restore(1);
        String ahead = seen(x);
        tell(x, "knitters 5 6;wool net 4 1;saying 4 9 5 1;");
        due("restore(1)", x.restore(1), 1);
        dueAlike("all that is seen", seen(x), ahead);
        x.unpick(0, 99);
        x.join(2, 3);
        due("restore(1) once more", x.restore(1), 1);
        dueAlike("all that is seen", seen(x), ahead);
        says("(no ACT can be undone then): 1. ");
        x.unpick(0, 1);
        due("restore(1)", x.restore(1), 1);
        due("acts", x.count(4), 0);
        due("undo()", x.undo(), STATE);
        says("BAD; ");
        dueOfAll("restore(n)", BAD, x::restore, -1, 2, LEAST, GREATEST);
        due("restore(2) where none was kept", new WoolTells().restore(2), BAD);
        says("STATE: none was kept.");
        x.knit(0, 1);
        due("restore(0)", x.restore(0), STATE);
        due("acts stay", x.count(4), 1);
        due("restore(1) of a new object", new WoolTells().restore(1), STATE);
    }
}
