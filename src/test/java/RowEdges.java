/** What an object is, how it refuses; its rows. */
final class RowEdges extends Edges {
    RowEdges(Check check, Document document) {
        super(check, document);
    }

    @Override
    void look() {
        lookAtAnObject();
        lookAtNumbers();
        lookAtRefusals();
        lookAtRefusalsInTheirOrder();
        lookAtFindings();
        lookAtWhatChangesNothing();
        lookAtRows();
        lookAtPromise2Row();
        lookAtPromise3Set();
        lookAtPromise4Copy();
        lookAtPromise4CopyRefused();
        lookAtPromise5Drop();
        lookAtPromise29Status();
        end();
    }

    private void lookAtAnObject() {
        section("What it is");
        says("An object is used for at most 512 calls after it has been made");
        WoolTells x = Check.told("knitters 1 1; wool net 0 30; wool cap 0 1;");
        int spent = 7;
        for (int call = spent + 1; call < 512; call++) {
            x.moths(call);
        }
        due("the 512th call", x.count(4), 24);
        section("Promise 1");
        says("No VALLEY.");
        WoolTells none = new WoolTells();
        for (int what = 0; what < 8; what++) {
            due("count(" + what + ") of a new object", none.count(what), 0);
        }
        due("worlds(0) of a new object", none.worlds(0), STATE);
        due("moths(1) of a new object", none.moths(1), STATE);
        due("firstFalse() of a new object", none.firstFalse(), STATE);
        due("wear(0, -1) of a new object", none.wear(0, -1), STATE);
        due("bids(0, 0, 0) of a new object", none.bids(0, 0, 0), STATE);
        due("image(0) of a new object", none.image(0), STATE);
        due("undo() of a new object", none.undo(), STATE);
        due("knit(0, 1) of a new object", none.knit(0, 1), BAD);
        due("known(0) of a new object", none.known(0), BAD);
    }

    private void lookAtNumbers() {
        section("Terms");
        says("Numbers go from 0 on.");
        WoolTells x = Check.told("knitters 1 1; wool cap 0 1; saying 0 0 0 0;");
        due("row 0", x.row(0, 0, 1), 1);
        due("item 0", x.set(0, 0, 5), 5);
        due("an item ahead of 0", x.set(0, -1, 5), PLACE);
        due("wool 0", x.wool(0, 0), 1);
        due("saying 0", x.saying(0, 0), 0);
        due("fact 0", x.known(0), -1);
        due("what knitter 0 wears", x.wear(0, 0), 0);
        due("a row ahead of 0", x.row(-1, 0, 1), BAD);
        due("a wool ahead of 0", x.wool(-1, 0), BAD);
        due("a saying ahead of 0", x.saying(-1, 0), BAD);
        due("a fact ahead of 0", x.known(-1), BAD);

        says("All that is divided is cut towards 0.");
        WoolTells odd = Check.told("knitters 1 1; wool scarf 0 1; wool scarf 0 29;");
        due("half of 1", odd.wool(0, 2), 0);
        due("half of 29", odd.wool(1, 2), 14);

        says("Sets are bits.");
        WoolTells five = Check.told("knitters 5 1; wool net 4 1;");
        due("the set of knitter 4", five.wool(0, 1), 16);
        due("the set of knitters 0 to 4", five.wool(0, 3), 31);
    }

    private void lookAtRefusals() {
        section("Terms");
        says("Refusals are answers, the first of these that fits, but as told: ");
        WoolTells x = new WoolTells();
        int[] odd = {LEAST, GREATEST};
        dueOfAll("row()", BAD, n -> x.row(n, n, n), odd);
        dueOfAll("set()", BAD, n -> x.set(n, n, n), odd);
        dueOfAll("copy()", BAD, n -> x.copy(n, n, n, n, n), odd);
        dueOfAll("drop()", BAD, x::drop, odd);
        dueOfAll("feed()", BAD, n -> x.feed(n, n), odd);
        dueOfAll("knit()", BAD, n -> x.knit(n, n), odd);
        dueOfAll("unpick()", BAD, n -> x.unpick(n, n), odd);
        dueOfAll("join()", BAD, n -> x.join(n, ~n), odd);
        dueOfAll("wool()", BAD, n -> x.wool(n, n), odd);
        dueOfAll("saying()", BAD, n -> x.saying(n, n), odd);
        dueOfAll("known()", BAD, x::known, odd);
        dueOfAll("out()", BAD, n -> x.out(n, n), odd);
        dueOfAll("image()", BAD, x::image, odd);
        dueOfAll("restore()", BAD, x::restore, odd);
        dueOfAll("kind()", BAD, x::kind, odd);
        dueOfAll("as()", BAD, n -> x.as(n, n), odd);
        dueOfAll("ask()", BAD, n -> x.ask(n, n), odd);
        dueOfAll("trace()", NONE, x::trace, odd);
        dueOfAll("count()", BAD, x::count, odd);
        dueOfAll("moths() without a valley", STATE, x::moths, odd);
        dueOfAll("worlds() without a valley", STATE, x::worlds, odd);
        dueOfAll("wear() without a valley", STATE, n -> x.wear(n, n), odd);
        dueOfAll("bids() without a valley", STATE, n -> x.bids(n, n, n), odd);
        tell(x, SORTS);
        dueOfAll("moths()", BAD, x::moths, odd);
        dueOfAll("worlds()", BAD, x::worlds, odd);
        dueOfAll("wear()", BAD, n -> x.wear(n, n), odd);
        dueOfAll("bids()", BAD, n -> x.bids(n, n, n), odd);
    }

    private void lookAtRefusalsInTheirOrder() {
        section("Terms");
        says("BAD (a number is not as told; there is no such thing), ");
        WoolTells x = Check.told("knitters 1 1; wool cap 0 30; wool cap 0 1;");
        due("not as told ahead of gone", gone(x).knit(1, 31), BAD);
        due("not as told ahead of gone", x.unpick(1, 100), BAD);
        due("alike ahead of gone", x.join(1, 1), BAD);
        due("no such wool ahead of gone", x.join(1, 2), BAD);
        due("no such image ahead of no valley", new WoolTells().image(2), BAD);
        due("no such image ahead of none kept", x.restore(2), BAD);
        due("no such row ahead of a finding", x.set(8, -1, 0), BAD);
        due("no such row ahead of a finding of the other", x.copy(0, -1, 8, 0, 0), BAD);
        due("no such lane ahead of fewer than none", x.row(0, 3, -1), BAD);
        due("no such wool ahead of not that", x.as(2, 5), BAD);
        due("no such kind ahead of not that", x.as(0, 6), BAD);

        says("STATE (as told), ");
        due("gone", x.knit(1, 30), STATE);
        due("no valley ahead of a missing row", new WoolTells().bids(0, 0, 0), STATE);
        due("no valley ahead of not as told", new WoolTells().worlds(9), STATE);

        says("FULL (as told), ");
        x.knit(0, 30);
        x.knit(0, 30);
        due("not as told ahead of above 99", x.knit(0, 31), BAD);
        due("above 99", x.knit(0, 30), FULL);

        says("then FINDINGS, ");
        due("a finding where nothing else fits", x.set(0, 0, 0), NULL);
        due("a finding where BAD fits, too", x.set(-1, 0, 0), BAD);
    }

    private static WoolTells gone(WoolTells x) {
        x.unpick(1, 99);
        return x;
    }

    private void lookAtFindings() {
        section("Terms");
        says("of several the first in time: ");
        WoolTells x = Check.told("knitters 2 1; wool cap 0 1;");
        x.row(0, 0, 3);
        x.row(1, 1, 3);
        due("missing ahead of no such place", x.set(5, 9, 0), NULL);
        due("missing ahead of two lanes", x.copy(5, 0, 1, 0, 1), NULL);
        due("missing ahead of no such place, the other one", x.copy(1, 9, 5, 9, 1), NULL);
        due("two lanes ahead of no such place", x.copy(0, 9, 1, 9, -1), STORE);
        due("missing ahead of no such place of bids", x.bids(5, 9, 0), NULL);
        says("-1000010 less 1 NULL (a ROW that is missing), ");
        dueFound(x.drop(5), -1000010 - 1, x, 1);
        says("2 PLACE (no such place of a ROW), ");
        dueFound(x.set(0, 3, 0), -1000010 - 2, x, 2);
        says("3 KIND (a WOOL that is not that), ");
        dueFound(x.as(0, 2), -1000010 - 3, x, 3);
        says("4 SIZE (fewer than none), ");
        dueFound(x.row(0, 0, -1), -1000010 - 4, x, 4);
        says("5 STORE (ROWS of two LANES).");
        dueFound(x.copy(0, 0, 1, 0, 1), -1000010 - 5, x, 5);
    }

    private void dueFound(int got, int want, WoolTells x, int number) {
        due("the answer", got, want);
        due("status()", x.status(), number);
    }

    private void lookAtWhatChangesNothing() {
        section("Terms");
        says("What is refused, or found, changes nothing but status().");
        WoolTells x = Check.told("knitters 2 2; wool cap 0 30; wool scarf 1 1; saying 0 0 0 1; saying 1 9 1 0;");
        fill(x, 0, 5, 0, 1000);
        x.row(1, 0, 2);
        x.knit(0, 30);
        x.knit(0, 30);
        x.unpick(1, 1);
        x.ask(0, 0);
        for (int n = 0; n < 50; n++) {
            x.feed(0, 8);
        }
        String ahead = seen(x);
        refuseRows(x);
        refuseActs(x);
        dueAlike("all that is seen", seen(x), ahead);
        due("the latest act is the one ahead of these", x.undo(), 2);
        due("undone", x.wool(1, 0), 1);
        due("a row as it was", x.drop(0), 3);
        due("the other row as it was", x.drop(1), 2);
        due("no image was kept", x.restore(0), STATE);
    }

    private void refuseRows(WoolTells x) {
        due("row(0, 0, -1)", x.row(0, 0, -1), SIZE);
        due("row(0, 0, 41)", x.row(0, 0, 41), BAD);
        due("set(0, 3, 7)", x.set(0, 3, 7), PLACE);
        due("copy(0, 0, 0, 1, 3)", x.copy(0, 0, 0, 1, 3), PLACE);
        due("copy(0, 0, 1, 0, 1)", x.copy(0, 0, 1, 0, 1), STORE);
        due("drop(2)", x.drop(2), NULL);
        due("drop(8)", x.drop(8), BAD);
        due("feed(32, 1)", x.feed(32, 1), FULL);
        due("feed(32, 9)", x.feed(32, 9), BAD);
        due("bids(0, 1, 0): the items are as they were", x.bids(0, 1, 0), BAD);
        due("bids(0, 0, 0): the items are as they were", x.bids(0, 0, 1), 1);
        due("status() is the one of a call refused as BAD no more", x.status(), 0);
    }

    private void refuseActs(WoolTells x) {
        due("knit(0, 10)", x.knit(0, 10), FULL);
        due("knit(0, 31)", x.knit(0, 31), BAD);
        due("knit(1, 1)", x.knit(1, 1), STATE);
        due("unpick(0, 100)", x.unpick(0, 100), BAD);
        due("unpick(1, 1)", x.unpick(1, 1), STATE);
        due("moths(0)", x.moths(0), BAD);
        due("join(0, 0)", x.join(0, 0), BAD);
        due("join(0, 1)", x.join(0, 1), STATE);
        due("image(2)", x.image(2), BAD);
        due("restore(1)", x.restore(1), STATE);
        due("ask(2, 1)", x.ask(2, 1), BAD);
        due("ask(1, 2)", x.ask(1, 2), BAD);
        due("as(0, 2)", x.as(0, 2), KIND);
        due("status()", x.status(), 3);
    }

    private void lookAtRows() {
        section("Terms");
        says("ROWS 0 .. 7 are missing (at first), ");
        WoolTells x = new WoolTells();
        for (int r = 0; r < 8; r++) {
            due("drop(" + r + ")", x.drop(r), NULL);
            due("set(" + r + ", 0, 0)", x.set(r, 0, 0), NULL);
            due("row(" + r + ", 0, 1)", x.row(r, 0, 1), 1);
        }
        due("rows then", x.count(0), 8);
        dueOfAll("drop", BAD, x::drop, -1, 8);

        says("or have a LANE (0 bytes, 1 shorts, 2 ints) ");
        dueLane(0, 0xff, -1);
        dueLane(0, 0x100, 0);
        dueLane(1, 0xff, 0xff);
        dueLane(1, 0xffff, -1);
        dueLane(1, 0x10000, 0);
        dueLane(2, 0xffff, 0xffff);
        dueLane(2, 0x10000, 0x10000);

        says("and 0 to 40 ITEMS, ");
        due("row of none", x.row(0, 0, 0), 0);
        due("its item 0", x.set(0, 0, 1), PLACE);
        due("row of 40", x.row(0, 0, 40), 40);
        due("its item 39", x.set(0, 39, 1), 1);
        due("its item 40", x.set(0, 40, 1), PLACE);
        due("row of 41", x.row(0, 0, 41), BAD);

        says("0 at first.");
        tell(x, "knitters 1 1;");
        x.row(1, 2, 40);
        for (int i = 0; i < 40; i++) {
            due("item " + i, x.bids(1, i, 1), NONE);
        }
        due("no item 40", x.bids(1, 40, 1), PLACE);
    }

    private void dueLane(int lane, int v, int want) {
        WoolTells x = new WoolTells();
        x.row(7, lane, 1);
        due(v + " in lane " + lane, x.set(7, 0, v), want);
    }

    private void lookAtPromise2Row() {
        section("Promise 2");
        says("A ROW of a LANE with n ITEMS, in place of what is there: n.");
        WoolTells x = Check.told("knitters 1 1;");
        due("row(3, 2, 4)", x.row(3, 2, 4), 4);
        x.set(3, 0, 7);
        x.set(3, 3, 7);
        due("row(3, 2, 2) in place of it", x.row(3, 2, 2), 2);
        due("one row yet", x.count(0), 1);
        due("its item is 0", x.bids(3, 0, 0), NONE);
        due("there is no item 2", x.set(3, 2, 1), PLACE);
        due("row(3, 2, 4) in place of that", x.row(3, 2, 4), 4);
        due("nothing is left of the first one", x.bids(3, 3, 0), NONE);
        due("row(3, 0, 4), of another lane", x.row(3, 0, 4), 4);
        due("the lane is the new one", x.set(3, 0, 128), -128);

        says("BAD: ROW, ");
        dueOfAll("row(n, 0, 1)", BAD, n -> x.row(n, 0, 1), -1, 8, LEAST, GREATEST);
        says("LANE, ");
        dueOfAll("row(0, n, 1)", BAD, n -> x.row(0, n, 1), -1, 3, LEAST, GREATEST);
        says("n above 40; ");
        dueOfAll("row(0, 0, n)", BAD, n -> x.row(0, 0, n), 41, 256, 65536, GREATEST);
        due("row(0, 0, 40)", x.row(0, 0, 40), 40);
        says("SIZE.");
        dueOfAll("row(0, 0, n)", SIZE, n -> x.row(0, 0, n), -1, -40, LEAST);
        due("row(8, 0, -1): BAD ahead of it", x.row(8, 0, -1), BAD);
        due("row(0, 3, -1): BAD ahead of it", x.row(0, 3, -1), BAD);
    }

    private void lookAtPromise3Set() {
        section("Promise 3");
        says("ITEM i becomes v, its lowest bits, as many as the LANE has (read with their sign): what it is then.");
        int[][] edges = {{0, 127, 127}, {0, 128, -128}, {0, -128, -128}, {0, -129, 127}, {0, 255, -1}, {0, 256, 0},
            {0, LEAST, 0}, {0, GREATEST, -1}, {1, 32767, 32767}, {1, 32768, -32768}, {1, -32768, -32768},
            {1, -32769, 32767}, {1, 65535, -1}, {1, 65536, 0}, {1, LEAST, 0}, {1, GREATEST, -1},
            {2, LEAST, LEAST}, {2, GREATEST, GREATEST}, {2, -1, -1}};
        for (int[] edge : edges) {
            dueLane(edge[0], edge[1], edge[2]);
        }
        WoolTells x = Check.told("knitters 1 1;");
        x.row(0, 0, 3);
        x.set(0, 0, 256);
        x.set(0, 1, 257);
        x.set(0, 2, 128);
        due("256 of a byte is 0 then", x.bids(0, 0, 1), NONE);
        due("257 of a byte is 1 then", x.bids(0, 1, 1), 1);
        due("128 of a byte is below 0 then", x.bids(0, 2, 1), BAD);

        says("BAD: ROW; ");
        dueOfAll("set(n, 0, 0)", BAD, n -> x.set(n, 0, 0), -1, 8);
        says("NULL; ");
        due("set(1, 0, 0)", x.set(1, 0, 0), NULL);
        due("set(1, -1, 0)", x.set(1, -1, 0), NULL);
        says("PLACE.");
        dueOfAll("set(0, n, 0)", PLACE, n -> x.set(0, n, 0), -1, 3, 39, 40, LEAST, GREATEST);
        x.row(2, 1, 0);
        due("set(2, 0, 0) of a row of none", x.set(2, 0, 0), PLACE);
    }

    private void lookAtPromise4Copy() {
        section("Promise 4");
        says("n ITEMS of a from i on come to b from j on, ");
        WoolTells x = Check.told("knitters 1 1;");
        fill(x, 0, 1, 0, 1, 0, 0);
        fill(x, 1, 0, 0, 0);
        due("copy(0, 1, 1, 0, 2)", x.copy(0, 1, 1, 0, 2), 2);
        dueZerosAndOnes(x, 1, 0, 1, 0);
        due("copy(0, 2, 1, 2, 1), the last one of it", x.copy(0, 2, 1, 2, 1), 1);
        dueZerosAndOnes(x, 1, 0, 1, 1);
        dueZerosAndOnes(x, 0, 1, 0, 1, 0, 0);
        x.row(2, 1, 40);
        x.row(3, 1, 40);
        x.set(2, 39, 1);
        due("copy of all 40", x.copy(2, 0, 3, 0, 40), 40);
        due("the last of them", x.bids(3, 39, 0), 0);

        says("as they were ahead: n.");
        due("copy(0, 0, 0, 1, 4), onwards", x.copy(0, 0, 0, 1, 4), 4);
        dueZerosAndOnes(x, 0, 1, 1, 0, 1, 0);
        due("copy(0, 1, 0, 0, 4), back", x.copy(0, 1, 0, 0, 4), 4);
        dueZerosAndOnes(x, 0, 1, 0, 1, 0, 0);
        due("copy(0, 0, 0, 0, 5), in place", x.copy(0, 0, 0, 0, 5), 5);
        dueZerosAndOnes(x, 0, 1, 0, 1, 0, 0);
        due("copy of none", x.copy(0, 0, 1, 0, 0), 0);
        due("copy of none at both ends", x.copy(0, 5, 1, 3, 0), 0);
        dueZerosAndOnes(x, 1, 0, 1, 1);
    }

    /** In a VALLEY of one KNITTER; nothing but bids() tells an ITEM. */
    private void dueZerosAndOnes(WoolTells x, int row, int... items) {
        for (int i = 0; i < items.length; i++) {
            due("item " + i + " of row " + row, x.bids(row, i, 1), items[i] == 0 ? NONE : 1);
        }
        due("row " + row + " behind its end", x.bids(row, items.length, 1), PLACE);
    }

    private void lookAtPromise4CopyRefused() {
        section("Promise 4");
        WoolTells x = new WoolTells();
        x.row(0, 0, 5);
        x.row(1, 0, 3);
        x.row(2, 1, 5);
        x.row(3, 2, 5);
        says("BAD: ROWS; ");
        dueOfAll("copy(n, 0, 0, 0, 1)", BAD, n -> x.copy(n, 0, 0, 0, 1), -1, 8);
        dueOfAll("copy(0, 0, n, 0, 1)", BAD, n -> x.copy(0, 0, n, 0, 1), -1, 8);
        says("NULL; ");
        due("copy from a missing one", x.copy(7, 0, 0, 0, 0), NULL);
        due("copy to a missing one", x.copy(0, 0, 7, 0, 0), NULL);
        due("copy within a missing one", x.copy(7, 0, 7, 0, 0), NULL);
        says("STORE; ");
        due("copy of bytes to shorts", x.copy(0, 0, 2, 0, 1), STORE);
        due("copy of shorts to bytes", x.copy(2, 0, 0, 0, 1), STORE);
        due("copy of ints to shorts", x.copy(3, 0, 2, 0, 1), STORE);
        due("copy of none of bytes to ints", x.copy(0, 0, 3, 0, 0), STORE);
        says("PLACE (i, j, n below 0, ");
        dueOfAll("copy(0, n, 1, 0, 1)", PLACE, n -> x.copy(0, n, 1, 0, 1), -1, LEAST);
        dueOfAll("copy(0, 0, 1, n, 1)", PLACE, n -> x.copy(0, 0, 1, n, 1), -1, LEAST);
        dueOfAll("copy(0, 2, 1, 2, n)", PLACE, n -> x.copy(0, 2, 1, 2, n), -1, LEAST);
        says("or beyond an end).");
        due("copy(0, 3, 1, 0, 3), of a by one", x.copy(0, 3, 1, 0, 3), PLACE);
        due("copy(0, 2, 1, 0, 3), not beyond", x.copy(0, 2, 1, 0, 3), 3);
        due("copy(0, 0, 1, 1, 3), of b by one", x.copy(0, 0, 1, 1, 3), PLACE);
        due("copy(0, 0, 1, 0, 4), of b by one", x.copy(0, 0, 1, 0, 4), PLACE);
        due("copy(1, 0, 0, 0, 4), of a by one", x.copy(1, 0, 0, 0, 4), PLACE);
        due("copy(0, 6, 1, 0, 0), of none", x.copy(0, 6, 1, 0, 0), PLACE);
        due("copy(0, 0, 1, 4, 0), of none", x.copy(0, 0, 1, 4, 0), PLACE);
        dueOfAll("copy(0, n, 1, 1, 1)", PLACE, n -> x.copy(0, n, 1, 1, 1), 5, GREATEST);
        dueOfAll("copy(0, 1, 1, n, 1)", PLACE, n -> x.copy(0, 1, 1, n, 1), 3, GREATEST);
        dueOfAll("copy(0, 1, 1, 1, n)", PLACE, n -> x.copy(0, 1, 1, 1, n), 3, GREATEST, GREATEST - 1);
        due("copy, all at the greatest", x.copy(0, GREATEST, 1, GREATEST, GREATEST), PLACE);
    }

    private void lookAtPromise5Drop() {
        section("Promise 5");
        says("A ROW is missing from now on: how many ITEMS it had.");
        WoolTells x = new WoolTells();
        x.row(0, 0, 40);
        x.row(7, 2, 0);
        due("drop(0)", x.drop(0), 40);
        due("drop(7) of none", x.drop(7), 0);
        due("rows then", x.count(0), 0);
        due("set(0, 0, 0) then", x.set(0, 0, 0), NULL);
        due("a new one in its place", x.row(0, 1, 2), 2);
        due("its size", x.drop(0), 2);
        says("BAD; ");
        dueOfAll("drop(n)", BAD, x::drop, -1, 8, LEAST, GREATEST);
        says("NULL.");
        due("drop(0) again", x.drop(0), NULL);
        due("drop(1), missing at first", x.drop(1), NULL);
    }

    private void lookAtPromise29Status() {
        section("Promise 29");
        says("Of the latest call with a ROW, or as(), ");
        WoolTells x = Check.told("knitters 1 1; wool cap 0 1;");
        dueStatus("drop()", x.drop(0), NULL, x, 1);
        dueStatus("row()", x.row(0, 0, -1), SIZE, x, 4);
        x.row(0, 0, 1);
        x.row(1, 1, 1);
        dueStatus("set()", x.set(0, 1, 0), PLACE, x, 2);
        dueStatus("copy()", x.copy(0, 0, 1, 0, 1), STORE, x, 5);
        dueStatus("bids()", x.bids(2, 0, 0), NULL, x, 1);
        dueStatus("as()", x.as(0, 5), KIND, x, 3);
        dueStatus("known(), without a ROW", x.known(0), -1, x, 3);
        dueStatus("knit(), without a ROW", x.knit(0, 1), 2, x, 3);
        dueStatus("ask(), without a ROW", x.ask(0, 1), 1 - 1000, x, 3);
        dueStatus("kind(), without a ROW", x.kind(0), 3, x, 3);
        dueStatus("count(0), of all rows", x.count(0), 2, x, 3);
        dueStatus("image(), without a ROW", x.image(0), 1, x, 3);
        dueStatus("restore(), without a ROW", x.restore(0), 1, x, 3);
        dueStatus("valley(), without a ROW", x.valley(), -1000100, x, 3);

        says("that was not BAD, STATE, FULL: ");
        dueStatus("row() BAD", x.row(8, 0, 1), BAD, x, 3);
        dueStatus("set() BAD", x.set(8, 0, 1), BAD, x, 3);
        dueStatus("copy() BAD", x.copy(8, 0, 0, 0, 0), BAD, x, 3);
        dueStatus("drop() BAD", x.drop(8), BAD, x, 3);
        dueStatus("bids() BAD", x.bids(8, 0, 0), BAD, x, 3);
        x.set(0, 0, -1);
        dueStatus("as(), found", x.as(0, 5), KIND, x, 3);
        dueStatus("bids() BAD by an item", x.bids(0, 0, 0), BAD, x, 3);
        dueStatus("as() BAD", x.as(1, 0), BAD, x, 3);
        WoolTells none = new WoolTells();
        none.drop(0);
        dueStatus("bids() STATE", none.bids(0, 0, 0), STATE, none, 1);

        says("the number of its FINDING; ");
        dueStatus("set() at no place", x.set(0, 40, 0), PLACE, x, 2);

        says("0: it had none, ");
        dueStatus("set()", x.set(0, 0, 0), 0, x, 0);
        x.drop(7);
        dueStatus("row()", x.row(0, 0, 1), 1, x, 0);
        x.drop(7);
        dueStatus("copy()", x.copy(0, 0, 0, 0, 1), 1, x, 0);
        x.drop(7);
        dueStatus("bids(), where nobody did", x.bids(0, 0, 0), NONE, x, 0);
        x.drop(7);
        dueStatus("drop()", x.drop(0), 1, x, 0);
        x.drop(7);
        dueStatus("as()", x.as(0, 1), 0, x, 0);

        says("or there was none.");
        due("status() of a new object", new WoolTells().status(), 0);
        due("status() behind calls without a ROW", Check.told(SORTS).status(), 0);
    }

    private void dueStatus(String call, int got, int want, WoolTells x, int number) {
        due(call, got, want);
        due("status() behind " + call, x.status(), number);
    }
}
