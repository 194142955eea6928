import java.math.BigInteger;

/** The wools, who may lie in them, the acts. */
final class ActEdges extends Edges {
    private static final String NINES = "knitters 1 1;" + "wool net 0 9;".repeat(7);

    ActEdges(Check check, Document document) {
        super(check, document);
    }

    @Override
    void look() {
        lookAtAWool();
        lookAtWhoMayLie();
        lookAtWhatIsWarm();
        lookAtActs();
        lookAtEachAct();
        lookAtMoths();
        lookAtWoolsKnitTogether();
        lookAtPromise9Knit();
        lookAtPromise10Unpick();
        lookAtPromise11Moths();
        lookAtPromise12Join();
        lookAtPromise13Undo();
        lookAtPromise14Wool();
        lookAtPromise15Saying();
        end();
    }

    private void lookAtAWool() {
        section("Terms");
        says("A WOOL is LONG by so many lines; ");
        WoolTells x = Check.told("knitters 1 1; wool cap 0 1; wool cap 0 30;");
        dueLines(x, 1, 30);
        says("with 0 it is gone. ");
        x.knit(1, 1);
        x.unpick(1, 30);
        due("knit() of one of a line", x.knit(1, 1), 2);
        x.unpick(1, 2);
        due("knit() of one of none", x.knit(1, 1), STATE);
        due("wools, those that are gone, too", x.count(2), 2);
        due("its kind", x.kind(1), 3);
        due("join() with it", x.join(0, 1), STATE);
        WoolTells eaten = Check.told("knitters 1 1; wool cap 0 1;");
        due("moths eat it", eaten.moths(1), 1);
        due("knit() of one eaten", eaten.knit(0, 1), STATE);
        says("MAKERS: KNITTERS (bits). ");
        WoolTells five = Check.told("knitters 5 1;wool cap 0 1;wool cap 1 1;wool cap 2 1;wool cap 3 1;wool cap 4 1;");
        for (int w = 0; w < 5; w++) {
            due("the maker of wool " + w, five.wool(w, 1), 1 << w);
        }
        for (int w = 1; w < 5; w++) {
            five.join(0, w);
        }
        due("all five", five.wool(0, 1), 31);
    }

    private void lookAtWhoMayLie() {
        section("Terms");
        says("MAY LIE: one in a WOOL that is not gone, ");
        WoolTells x = Check.told(SORTS);
        x.unpick(0, 6);
        due("in one of a line", x.wool(0, 3), 1);
        x.unpick(0, 1);
        due("in one that is gone", x.wool(0, 3), 0);
        due("its maker", x.wool(0, 1), 1);
        x.unpick(4, 5);
        due("in a net that is gone", x.wool(4, 3), 0);
        x.unpick(3, 4);
        due("in a stocking that is gone, by 0", x.wool(3, 3), 0);
        says("if he is among its MAKERS; ");
        due("in a scarf", x.wool(1, 3), 2);
        due("in a cap", x.wool(2, 3), 4);
        x.join(1, 2);
        due("in a scarf of two", x.wool(1, 3), 6);
        says("in a net anybody ");
        due("one alone", Check.told("knitters 1 1;wool net 0 2;").wool(0, 3), 1);
        due("five", Check.told("knitters 5 1;wool net 2 2;").wool(0, 3), 31);
        says("(by an odd number, too); ");
        due("by 1", Check.told("knitters 2 1;wool net 0 1;").wool(0, 3), 3);
        due("by 29", Check.told("knitters 2 1;wool net 0 29;").wool(0, 3), 3);
        says("in a stocking only if it is LONG by an even number, too; ");
        WoolTells odd = Check.told("knitters 2 1;wool stocking 1 2;wool cap 0 3;");
        due("by 2, who made it alone", odd.wool(0, 3), 2);
        odd.unpick(0, 1);
        due("by 1", odd.wool(0, 3), 0);
        odd.join(0, 1);
        due("by 4, both who made it", odd.wool(0, 3), 3);
        odd.knit(0, 29);
        due("by 33", odd.wool(0, 3), 0);
        due("a jersey by an odd number", Check.told("knitters 1 1;wool jersey 0 3;").wool(0, 3), 1);
        says("who wears none may not. ");
        due("bound", Check.told("knitters 1 1;wool net 0 2;saying 0 9 0 0;").saying(0, 4), 1);
    }

    private void lookAtWhatIsWarm() {
        section("Terms");
        WoolTells x = Check.told("knitters 1 1;wool jersey 0 1;wool stocking 0 3;wool scarf 0 1;wool scarf 0 2;"
                + "wool scarf 0 29;wool cap 0 1;wool net 0 30;");
        says("WARM: LONG; ");
        due("a jersey", x.wool(0, 2), 1);
        due("a stocking", x.wool(1, 2), 3);
        says("a scarf half of it (cut), ");
        due("of 1", x.wool(2, 2), 0);
        due("of 2", x.wool(3, 2), 1);
        due("of 29", x.wool(4, 2), 14);
        says("a cap 2 more, ");
        due("of 1", x.wool(5, 2), 3);
        says("a net nothing; ");
        due("of 30", x.wool(6, 2), 0);
        says("one that is gone nothing.");
        for (int w = 0; w < 7; w++) {
            x.unpick(w, 99);
            due("wool " + w + " that is gone", x.wool(w, 2), 0);
        }
    }

    private void lookAtActs() {
        section("Terms");
        says("ACTS (24 at most are kept, ");
        WoolTells x = Check.told("knitters 1 1; wool cap 0 1; wool cap 0 1;");
        for (int n = 1; n <= 24; n++) {
            x.knit(0, 1);
            due("acts behind " + n, x.count(4), n);
        }
        x.knit(0, 1);
        due("acts behind 25", x.count(4), 24);
        says("of more the oldest is forgotten; ");
        for (int left = 23; left >= 0; left--) {
            due("undo()", x.undo(), left);
        }
        due("but the first act all are undone", x.wool(0, 0), 2);
        due("undo() of the one forgotten", x.undo(), STATE);
        for (int n = 0; n < 50; n++) {
            x.knit(1, 1);
        }
        for (int n = 0; n < 24; n++) {
            x.undo();
        }
        due("but 26 of 50 all are undone", x.wool(1, 0), 27);
        due("undo() of those forgotten", x.undo(), STATE);
        says("each can be undone, the latest first; ");
        x.knit(0, 3);
        x.join(1, 0);
        x.unpick(1, 99);
        x.undo();
        dueLines(x, 0, 32);
        x.undo();
        dueLines(x, 5, 27);
        x.undo();
        dueLines(x, 2, 27);
        WoolTells wed = Check.told("knitters 5 1;wool cap 0 1;wool cap 1 1;wool cap 2 1;wool cap 3 1;wool cap 4 1;");
        for (int w = 1; w < 5; w++) {
            wed.join(w, w - 1);
        }
        for (int w = 4; w > 0; w--) {
            due("the makers of all", wed.wool(w, 1), (2 << w) - 1);
            wed.undo();
            due("the maker of wool " + w + " alone", wed.wool(w, 1), 1 << w);
        }
        says("also such by which nothing becomes another): ");
        WoolTells none = Check.told("knitters 1 1;");
        due("moths where there is no wool", none.moths(1), 0);
        due("acts", none.count(4), 1);
        due("undo()", none.undo(), 0);
        WoolTells eaten = Check.told("knitters 1 1; wool cap 0 9;");
        // 3 times 16807 is 50421: nothing by 3.
        due("moths that eat none", eaten.moths(3), 0);
        due("acts", eaten.count(4), 1);
        eaten.unpick(0, 9);
        eaten.moths(1);
        due("undo() of moths that found none", eaten.undo(), 2);
        dueLines(eaten, 0);
    }

    private void lookAtEachAct() {
        section("Terms");
        says("a WOOL is KNITTED on, or UNPICKED, by some lines; ");
        WoolTells x = Check.told("knitters 2 1; wool cap 0 5; wool cap 1 5;");
        x.knit(0, 30);
        dueLines(x, 35, 5);
        x.unpick(0, 34);
        dueLines(x, 1, 5);
        due("the makers stay", x.wool(0, 1), 1);
        says("MOTHS by a SEED (X at first): ");
        // The seed itself is no draw: 2 times 16807 is 33614, 2 by 3.
        due("moths(2)", Check.told("knitters 1 1; wool cap 0 5;").moths(2), 2);
        due("moths(1)", Check.told("knitters 1 1; wool cap 0 5;").moths(1), 1);
        due("moths(3)", Check.told("knitters 1 1; wool cap 0 5;").moths(3), 0);
        says("of each WOOL that is not gone, in order, ");
        WoolTells all = Check.told(NINES);
        WoolTells some = Check.told(NINES);
        all.moths(7);
        for (int w = 0; w < 7; w += 3) {
            some.unpick(w, 99);
        }
        int[] drawn = draws(7);
        some.moths(7);
        dueLines(all, 9 - drawn[0], 9 - drawn[1], 9 - drawn[2], 9 - drawn[3], 9 - drawn[4], 9 - drawn[5], 9 - drawn[6]);
        dueLines(some, 0, 9 - drawn[0], 9 - drawn[1], 0, 9 - drawn[2], 9 - drawn[3], 0);
    }

    /** The lines that a seed draws, by numbers that can not be too great. */
    private static int[] draws(int seed) {
        BigInteger x = BigInteger.valueOf(seed);
        int[] drawn = new int[7];
        for (int d = 0; d < drawn.length; d++) {
            x = x.multiply(BigInteger.valueOf(16807)).mod(BigInteger.valueOf(2147483647));
            drawn[d] = x.mod(BigInteger.valueOf(3)).intValue();
        }
        return drawn;
    }

    private void lookAtMoths() {
        section("Terms");
        says("X becomes the rest of (X times 16807) by 2147483647, ");
        // 16807, 282475249, 1622650073, 984943658, 1144108930, 470211272, 101027544, as the minimal standard tells.
        WoolTells x = Check.told(NINES);
        due("moths(1)", x.moths(1), 1 + 1 + 2 + 2 + 1 + 2);
        dueLines(x, 8, 8, 7, 7, 8, 7, 9);
        for (int seed : new int[] {127773, 127774, 255546, 500000, 999999}) {
            WoolTells again = Check.told(NINES);
            again.moths(seed);
            int[] drawn = draws(seed);
            for (int w = 0; w < 7; w++) {
                due("wool " + w + " behind moths(" + seed + ")", again.wool(w, 0), 9 - drawn[w]);
            }
        }
        says("the rest of that by 3 lines are eaten ");
        for (int seed = 1; seed <= 6; seed++) {
            WoolTells one = Check.told("knitters 1 1; wool net 0 9;");
            due("moths(" + seed + ")", one.moths(seed), seed * 16807 % 3);
            due("left by moths(" + seed + ")", one.wool(0, 0), 9 - seed * 16807 % 3);
        }
        says("(as far as there are); ");
        WoolTells few = Check.told("knitters 1 1; wool net 0 1; wool net 0 9;");
        // 33614 is 2 by 3, 564950498 is 2 by 3.
        due("moths(2)", few.moths(2), 1 + 2);
        dueLines(few, 0, 7);
    }

    private void lookAtWoolsKnitTogether() {
        section("Terms");
        says("two WOOLS are KNIT together: the first is LONG by both, and has all MAKERS, ");
        WoolTells x = Check.told("knitters 5 1; wool cap 4 5; wool net 0 7; wool cap 4 1;");
        due("join(0, 1)", x.join(0, 1), 12);
        due("makers", x.wool(0, 1), 17);
        due("the kind of the first", x.kind(0), 3);
        due("join(0, 2), of a maker there is", x.join(0, 2), 13);
        due("makers", x.wool(0, 1), 17);
        says("the other one is gone ");
        due("wool 1", x.wool(1, 0), 0);
        due("knit() of it", x.knit(1, 1), STATE);
        says("(its MAKERS stay as they were).");
        due("makers of wool 1", x.wool(1, 1), 1);
        due("makers of wool 2", x.wool(2, 1), 16);
    }

    private void lookAtPromise9Knit() {
        section("Promise 9");
        says("A WOOL is KNITTED on by n lines (1 to 30): how LONG it is. ");
        WoolTells x = Check.told("knitters 1 1; wool cap 0 29; wool cap 0 1;");
        due("knit(0, 1)", x.knit(0, 1), 30);
        due("knit(0, 30)", x.knit(0, 30), 60);
        says("BAD; ");
        dueOfAll("knit(n, 1)", BAD, n -> x.knit(n, 1), -1, 2, 7, LEAST, GREATEST);
        dueOfAll("knit(0, n)", BAD, n -> x.knit(0, n), 0, 31, -1, LEAST, GREATEST);
        due("knit(0, 1) without a valley", new WoolTells().knit(0, 1), BAD);
        says("STATE: it is gone; ");
        x.unpick(1, 1);
        due("knit(1, 1)", x.knit(1, 1), STATE);
        due("knit(1, 30)", x.knit(1, 30), STATE);
        due("knit(1, 31): BAD ahead of it", x.knit(1, 31), BAD);
        says("FULL: above 99.");
        x.knit(0, 10);
        due("knit(0, 30) to 100", x.knit(0, 30), FULL);
        due("knit(0, 29) to 99", x.knit(0, 29), 99);
        due("knit(0, 1) to 100", x.knit(0, 1), FULL);
        due("knit(0, 30)", x.knit(0, 30), FULL);
        due("acts", x.count(4), 5);
    }

    private void lookAtPromise10Unpick() {
        section("Promise 10");
        says("A WOOL is UNPICKED by n lines (1 to 99), ");
        WoolTells x = Check.told("knitters 1 1; wool cap 0 30; wool cap 0 5;");
        x.knit(0, 30);
        x.knit(0, 30);
        x.knit(0, 9);
        due("unpick(0, 1)", x.unpick(0, 1), 1);
        dueLines(x, 98, 5);
        x.knit(0, 1);
        due("unpick(0, 99) of 99", x.unpick(0, 99), 99);
        dueLines(x, 0, 5);
        x.undo();
        due("unpick(0, 98) of 99", x.unpick(0, 98), 98);
        dueLines(x, 1, 5);
        says("as far as there are: how many. ");
        due("unpick(1, 4) of 5", x.unpick(1, 4), 4);
        due("unpick(1, 2) of 1", x.unpick(1, 2), 1);
        dueLines(x, 1, 0);
        says("BAD; ");
        dueOfAll("unpick(n, 1)", BAD, n -> x.unpick(n, 1), -1, 2, LEAST, GREATEST);
        dueOfAll("unpick(0, n)", BAD, n -> x.unpick(0, n), 0, 100, -1, LEAST, GREATEST);
        due("unpick(0, 1) without a valley", new WoolTells().unpick(0, 1), BAD);
        says("STATE: it is gone.");
        due("unpick(1, 1)", x.unpick(1, 1), STATE);
        due("unpick(1, 100): BAD ahead of it", x.unpick(1, 100), BAD);
    }

    private void lookAtPromise11Moths() {
        section("Promise 11");
        says("MOTHS (SEED 1 to 999999): how many lines they ate. ");
        WoolTells x = Check.told(NINES);
        due("moths(1)", x.moths(1), 9);
        due("lines left", x.count(5), 54);
        int[] drawn = draws(999999);
        due("moths(999999)", x.moths(999999), drawn[0] + drawn[1] + drawn[2] + drawn[3] + drawn[4] + drawn[5] + drawn[6]);
        due("of no wool", Check.told("knitters 1 1;").moths(999999), 0);
        says("BAD; ");
        dueOfAll("moths(n)", BAD, x::moths, 0, 1000000, -1, LEAST, GREATEST);
        due("acts", x.count(4), 2);
        says("STATE: no VALLEY (ahead of BAD).");
        dueOfAll("moths(n) without a valley", STATE, new WoolTells()::moths, 1, 999999, 0, 1000000, -1);
    }

    private void lookAtPromise12Join() {
        section("Promise 12");
        says("Two WOOLS are KNIT together: how LONG the first is then. ");
        WoolTells x = Check.told("knitters 1 1;wool cap 0 30;wool cap 0 30;wool cap 0 30;wool cap 0 9;wool cap 0 1;");
        due("join(1, 0), the first behind the other", x.join(1, 0), 60);
        dueLines(x, 0, 60, 30, 9, 1);
        due("join(1, 2)", x.join(1, 2), 90);
        says("BAD: ");
        dueOfAll("join(n, 1)", BAD, n -> x.join(n, 1), -1, 5, LEAST, GREATEST);
        dueOfAll("join(1, n)", BAD, n -> x.join(1, n), -1, 5, LEAST, GREATEST);
        due("join(0, 1) without a valley", new WoolTells().join(0, 1), BAD);
        says("alike, too; ");
        due("join(1, 1)", x.join(1, 1), BAD);
        due("join(3, 3)", x.join(3, 3), BAD);
        due("join(0, 0), gone: BAD ahead of it", x.join(0, 0), BAD);
        says("STATE: one is gone; ");
        due("join(0, 1)", x.join(0, 1), STATE);
        due("join(1, 0)", x.join(1, 0), STATE);
        due("join(0, 2), both", x.join(0, 2), STATE);
        says("FULL: above 99.");
        due("join(1, 3) to 99", x.join(1, 3), 99);
        due("join(1, 4) to 100", x.join(1, 4), FULL);
        due("join(4, 1) to 100", x.join(4, 1), FULL);
        dueLines(x, 0, 99, 0, 0, 1);
        due("acts", x.count(4), 3);
    }

    private void lookAtPromise13Undo() {
        section("Promise 13");
        says("The latest ACT is undone: how many can be undone yet. ");
        WoolTells x = Check.told("knitters 2 1; wool cap 0 5; wool cap 1 7;");
        x.knit(0, 1);
        x.join(0, 1);
        due("undo() of the latest", x.undo(), 1);
        dueLines(x, 6, 7);
        due("its makers are as they were", x.wool(0, 1), 1);
        x.moths(1);
        due("undo() of one made since", x.undo(), 1);
        dueLines(x, 6, 7);
        due("undo() of the first", x.undo(), 0);
        dueLines(x, 5, 7);
        x.unpick(1, 99);
        x.undo();
        due("one that was gone is there", x.knit(1, 1), 8);
        says("STATE: none.");
        x.undo();
        due("undo() of none", x.undo(), STATE);
        due("undo() without a valley", new WoolTells().undo(), STATE);
        dueLines(x, 5, 7);
    }

    private void lookAtPromise14Wool() {
        section("Promise 14");
        says("Of a WOOL: 0 LONG, 1 MAKERS, 2 WARM, 3 KNITTERS who MAY LIE in it (bits). ");
        WoolTells x = Check.told(SORTS);
        int[][] due = {{7, 1, 7, 1}, {9, 2, 4, 2}, {3, 4, 5, 4}, {4, 4, 4, 4}, {5, 1, 0, 7}};
        for (int w = 0; w < 5; w++) {
            for (int what = 0; what < 4; what++) {
                due("wool(" + w + ", " + what + ")", x.wool(w, what), due[w][what]);
            }
        }
        says("BAD.");
        dueOfAll("wool(n, 0)", BAD, n -> x.wool(n, 0), -1, 5, 6, 7, LEAST, GREATEST);
        dueOfAll("wool(0, n)", BAD, n -> x.wool(0, n), -1, 4, LEAST, GREATEST);
        due("wool(0, 0) without a valley", new WoolTells().wool(0, 0), BAD);
    }

    private void lookAtPromise15Saying() {
        section("Promise 15");
        says("Of a SAYING: 0 WHO, ");
        WoolTells x = Check.told("knitters 5 6;wool cap 4 2;wool stocking 4 2;saying 4 1 5 1;saying 0 9 0 0;saying 3 0 1 1;");
        due("saying(0, 0)", x.saying(0, 0), 4);
        due("saying(1, 0)", x.saying(1, 0), 0);
        says("1 its WOOL (NONE: none), ");
        due("saying(0, 1)", x.saying(0, 1), 1);
        due("saying(1, 1)", x.saying(1, 1), NONE);
        due("saying(2, 1)", x.saying(2, 1), 0);
        says("2 FACT, ");
        due("saying(0, 2)", x.saying(0, 2), 5);
        due("saying(1, 2)", x.saying(1, 2), 0);
        says("3 IS, ");
        due("saying(0, 3)", x.saying(0, 3), 1);
        due("saying(1, 3)", x.saying(1, 3), 0);
        says("4 whether BOUND (1, 0). ");
        due("of one who may lie", x.saying(0, 4), 0);
        due("of one who wears none", x.saying(1, 4), 1);
        due("of one who did not make it", x.saying(2, 4), 1);
        x.knit(1, 1);
        due("in a stocking of an odd number", x.saying(0, 4), 1);
        says("BAD.");
        dueOfAll("saying(n, 0)", BAD, n -> x.saying(n, 0), -1, 3, 11, 12, LEAST, GREATEST);
        dueOfAll("saying(0, n)", BAD, n -> x.saying(0, n), -1, 5, LEAST, GREATEST);
        due("saying(0, 0) without a valley", new WoolTells().saying(0, 0), BAD);
    }
}
