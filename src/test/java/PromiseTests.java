// For each promise of ../shared/DOC.md: ordinary inputs, the edges that it names, wrong inputs.
public final class PromiseTests extends Answers {
    public static void main(String[] args) {
        constantsAndNew();
        write();
        wipe();
        fault();
        lay();
        knot();
        person();
        may();
        undo();
        tie();
        pull();
        cut();
        days();
        takeBack();
        loosen();
        pay();
        forEver();
        frees();
        fresh();
        orders();
        toldRow();
        cross();
        smooth();
        loose();
        alike();
        mark();
        year();
        keepAndBack();
        count();
        end();
    }

    private static void constantsAndNew() {
        due("BAD", BAD, -1);
        due("NO", NO, -2);
        due("FULL", FULL, -3);
        due("NONE", NONE, -4);
        TiedToTown x = new TiedToTown();
        int[] counts = {3, 2, 2, 0, 0, 0, 0, 0, 0};
        for (int what = 0; what < counts.length; what++) {
            due("new: count(" + what + ")", x.count(what), counts[what]);
        }
        int[][] knots = {{0, 1, 0, 5, 0, 1, 2}, {1, 2, 1, 9, 0, 1, 0}};
        for (int k = 0; k < 2; k++) {
            for (int what = 0; what < 7; what++) {
                due("new: knot(" + k + ", " + what + ")", x.knot(k, what), knots[k][what]);
            }
        }
        for (int i = 0; i < 3; i++) {
            due("new: person(" + i + ", 0)", x.person(i, 0), 1);
        }
        due("new: loose(0, -1)", x.loose(0, -1), 0);
        due("new: loose(1, -1)", x.loose(1, -1), 0);
    }

    private static void write() {
        TiedToTown x = new TiedToTown();
        due("write(0, 0)", x.write(0, 0), BAD);
        due("write(9, 0)", x.write(9, 0), BAD);
        due("write(MIN, 0)", x.write(MIN, 0), BAD);
        due("write(MAX, 0)", x.write(MAX, 0), BAD);
        due("count(7) after wrong ones", x.count(7), 0);
        due("write: only the lowest bytes", x.write(3, 0x7777777777000000L + ('p' << 16 | '1' << 8 | ';')), 3);
        due("fault() of p1;", x.fault(), NONE);
        due("write(1, -1)", x.write(1, -1L), 4);
        due("fault() behind byte 255", x.fault(), 3);
        for (int i = 1; i <= 37; i++) {
            x.write(8, 0);
        }
        due("count(7) when full", x.count(7), 300);
        due("write(1, 0) when full", x.write(1, 0), FULL);
        due("write(0, 0) when full", x.write(0, 0), BAD);
        x.wipe();
        for (int i = 1; i <= 37; i++) {
            x.write(8, 0);
        }
        due("write(5, 0) at 296", x.write(5, 0), FULL);
        due("count(7) after FULL", x.count(7), 296);
        due("write(4, 0) at 296", x.write(4, 0), 300);
        TiedToTown y = new TiedToTown();
        y.write(8, Long.MIN_VALUE);
        due("fault() of byte 128", y.fault(), 0);
    }

    private static void wipe() {
        TiedToTown x = new TiedToTown();
        due("wipe() of nothing", x.wipe(), 0);
        put(x, "p1;p0;q");
        due("wipe()", x.wipe(), 7);
        due("count(7)", x.count(7), 0);
        due("fault()", x.fault(), NONE);
        due("wipe() again", x.wipe(), 0);
    }

    private static void fault() {
        fault("", NONE);
        fault("p1;p0;", NONE);
        fault("p1;p0", 3);
        fault("p2;", 0);
        fault("p001;p000;", NONE);
        fault("p0001;", 0);
        fault("p;", 0);
        fault("p1", 0);
        fault("p1,;", 0);
        fault("p1,1;", 0);
        fault("p-1;", 0);
        fault("P1;", 0);
        fault(";", 0);
        fault("p1;;", 3);
        fault("p1; p1;", 3);
        fault("p1;p1;p1;p1;p1;p1;", NONE);
        fault("p1;p1;p1;p1;p1;p1;p1;", 18);
        fault("p1;p1;k0,1,0,0,0;", NONE);
        fault("p1;p1;k0,1,0,0,0", 6);
        fault("p1;p1;k0,1,0,0;", 6);
        fault("p1;p1;k0,1,0,0,0,0;", 6);
        fault("p1;p1;k0,1,0,0,0,", 6);
        fault("p1;p1;k0;1,0,0,0;", 6);
        fault("p1;p1;k1,1,0,0,0;", 6);
        fault("p1;p1;k0,2,0,0,0;", 6);
        fault("p1;p1;k2,0,0,0,0;", 6);
        fault("p1;k0,1,0,0,0;p1;", 3);
        fault("p1;p1;k0,1,1,0,0;", 6);
        fault("p1;p1;k0,1,0,0,0;k0,1,1,0,0;k0,1,3,0,0;", NONE);
        fault("p1;p1;k0,1,0,0,0;k0,1,2,0,0;", 17);
        fault("p1;p1;k0,1,0,99,3;", NONE);
        fault("p1;p1;k0,1,0,100,3;", 6);
        fault("p1;p1;k0,1,0,0,4;", 6);
        fault("p1;p1;k00,001,000,099,003;", NONE);
        fault("p1;p1;k0,1,0,0,0;p2;", 17);
        fault("l0;l1;l2;", NONE);
        fault("l3;", 0);
        fault("l;", 0);
        fault("l1,1;", 0);
        String eight = "p1;p0;";
        for (int k = 0; k < 8; k++) {
            eight += "k0,1," + ((1 << k) - 1) + ",1,0;";
        }
        fault(eight, NONE);
        fault(eight + "k0,1,0,1,0;", eight.length());
        fault("l0;".repeat(100), NONE);
        fault("l0;".repeat(99) + "l3;", 297);
        fault("l0;".repeat(98) + "p1;p01", 297);
        TiedToTown x = new TiedToTown();
        put(x, "p1;");
        x.wipe();
        put(x, "p1");
        due("nothing of a wiped text counts", x.fault(), 0);
    }

    private static void lay() {
        TiedToTown x = new TiedToTown();
        due("lay() of nothing", x.lay(), NO);
        put(x, "p1;p0;l2;");
        due("lay() without a knot", x.lay(), NO);
        due("count(0) after NO", x.count(0), 3);
        due("count(8) after NO", x.count(8), 0);
        put(x, "k0,1,0,7,1;l1;");
        x.tell(1);
        x.cross(0, 1);
        x.cross(1, 2);
        x.days(3);
        x.keep();
        due("lay()", x.lay(), 1);
        int[] counts = {2, 1, 1, 0, 0, 0, 0, 23, 1};
        for (int what = 0; what < counts.length; what++) {
            due("laid: count(" + what + ")", x.count(what), counts[what]);
        }
        due("laid: loose(0, -1)", x.loose(0, -1), 0);
        due("laid: smooth(0)", x.smooth(0), 0);
        due("laid: smooth(1)", x.smooth(1), 0);
        due("laid: takeBack()", x.takeBack(), NO);
        due("laid: back()", x.back(), NO);
        due("laid: person(1, 0)", x.person(1, 0), 0);
        x.days(5);
        x.tell(0);
        x.keep();
        put(x, "k0");
        due("lay() with a fault", x.lay(), NO);
        due("count(3) after NO", x.count(3), 5);
        due("count(4) after NO", x.count(4), 1);
        due("count(6) after NO", x.count(6), 1);
        x.undo(0);
        x.wipe();
        put(x, "p1;p1;k0,1,0,7,1;");
        due("lay() once more", x.lay(), 1);
        due("the law without l", x.count(8), 0);
        due("all TIED again", x.count(2), 1);
        x.wipe();
        put(x, "p0;p0;k0,1,0,7,1;k0,1,0,7,1;");
        x.lay();
        due("who lived lives no more", x.person(0, 0), 0);
        x.wipe();
        put(x, "p0;p0;k0,1,0,7,1;");
        x.lay();
        due("nothing else is TIED", x.person(0, 1), 1);
        due("nothing else is there", x.orders(), 1);
    }

    private static void knot() {
        TiedToTown x = laid("p1;p1;p0;k0,1,0,5,1;k2,1,1,99,2;k1,0,2,0,3;k1,0,0,0,0;");
        int[][] knots = {{0, 1, 0, 5, 1, 1, 6}, {2, 1, 1, 99, 2, 1, 4}, {1, 0, 2, 0, 3, 1, 0}, {1, 0, 0, 0, 0, 1, 0}};
        for (int k = 0; k < knots.length; k++) {
            for (int what = 0; what < 7; what++) {
                due("knot(" + k + ", " + what + ")", x.knot(k, what), knots[k][what]);
            }
        }
        x.cut(2);
        due("knot(0, 6) without 2", x.knot(0, 6), 2);
        due("knot(2, 5)", x.knot(2, 5), 0);
        due("knot(2, 2) though undone", x.knot(2, 2), 2);
        due("knot(4, 0)", x.knot(4, 0), BAD);
        due("knot(-1, 0)", x.knot(-1, 0), BAD);
        due("knot(0, -1)", x.knot(0, -1), BAD);
        due("knot(0, 7)", x.knot(0, 7), BAD);
        due("knot(MIN, MIN)", x.knot(MIN, MIN), BAD);
        due("knot(MAX, MAX)", x.knot(MAX, MAX), BAD);
    }

    private static void person() {
        TiedToTown x = laid("p1;p0;p1;k0,1,0,5,0;k1,2,0,5,0;k0,2,0,5,0;");
        due("person(0, 0)", x.person(0, 0), 1);
        due("person(1, 0)", x.person(1, 0), 0);
        due("person(0, 1)", x.person(0, 1), 5);
        due("person(1, 1)", x.person(1, 1), 3);
        x.undo(2);
        due("person(0, 1) without 2", x.person(0, 1), 1);
        due("person(2, 1) without 2", x.person(2, 1), 2);
        due("person(3, 0)", x.person(3, 0), BAD);
        due("person(-1, 0)", x.person(-1, 0), BAD);
        due("person(0, -1)", x.person(0, -1), BAD);
        due("person(0, 2)", x.person(0, 2), BAD);
        due("person(MIN, 0)", x.person(MIN, 0), BAD);
    }

    private static void may() {
        String knots = "p1;p0;p0;p1;k0,3,0,0,0;k0,1,0,0,0;k2,1,0,0,0;";
        int[][] byLaw = {{1, 0, 0}, {1, 1, 0}, {1, 1, 1}};
        for (int law = 0; law < 3; law++) {
            TiedToTown x = laid(knots + "l" + law + ";");
            for (int k = 0; k < 3; k++) {
                due("law " + law + ": may(" + k + ")", x.may(k), byLaw[law][k]);
            }
        }
        TiedToTown x = laid("p1;p1;p1;p1;k0,1,0,3,2;k2,3,0,0,3;k1,2,0,0,1;");
        due("a TIGHT one ahead of its day", x.may(0), 0);
        due("a SEALED one with another", x.may(1), 0);
        x.days(2);
        due("a TIGHT one the day before", x.may(0), 0);
        x.days(1);
        due("a TIGHT one on its day", x.may(0), 1);
        x.days(1);
        due("a TIGHT one later", x.may(0), 1);
        x.undo(2);
        due("a SEALED one alone", x.may(1), 1);
        due("one that is undone", x.may(2), 0);
        due("may(3)", x.may(3), BAD);
        due("may(-1)", x.may(-1), BAD);
        due("may(MIN)", x.may(MIN), BAD);
        due("may(MAX)", x.may(MAX), BAD);
        TiedToTown y = new TiedToTown();
        due("one that is gone through", y.may(0), 0);
        y.undo(1);
        due("one that is gone through no more", y.may(0), 1);
    }

    private static void undo() {
        TiedToTown x = new TiedToTown();
        due("undo(0) under 1", x.undo(0), NO);
        due("count(5) after NO", x.count(5), 0);
        due("undo(1)", x.undo(1), 1);
        due("undo(1) again", x.undo(1), NO);
        due("undo(2)", x.undo(2), BAD);
        due("undo(-1)", x.undo(-1), BAD);
        due("undo(0)", x.undo(0), 0);
        due("count(5)", x.count(5), 2);
        TiedToTown y = laid("p1;p0;k0,1,0,0,0;");
        due("undo(0) with a dead one", y.undo(0), NO);
        due("count(2)", y.count(2), 1);
    }

    private static void tie() {
        TiedToTown x = laid("p1;p1;p0;k0,1,0,5,0;k0,1,0,5,0;");
        int[][] bad = {{-1, 0, 0, 0, 0}, {3, 0, 0, 0, 0}, {0, 3, 0, 0, 0}, {0, -1, 0, 0, 0}, {1, 1, 0, 0, 0},
            {0, 1, 4, 0, 0}, {0, 1, -1, 0, 0}, {0, 1, MIN, 0, 0}, {0, 1, 0, -1, 0}, {0, 1, 0, 100, 0},
            {0, 1, 0, 0, -1}, {0, 1, 0, 0, 4}, {2, 1, 4, 0, 0}, {MAX, MIN, MAX, MIN, MAX}};
        for (int[] b : bad) {
            due("a BAD tie", x.tie(b[0], b[1], b[2], b[3], b[4]), BAD);
        }
        due("tie with the dead", x.tie(0, 2, 0, 0, 0), NO);
        due("tie with the dead first", x.tie(2, 0, 0, 0, 0), NO);
        x.undo(0);
        due("tie through an undone one", x.tie(0, 1, 3, 0, 0), NO);
        due("tie", x.tie(1, 0, 2, 99, 3), 2);
        int[] told = {1, 0, 2, 99, 3, 1, 0};
        for (int what = 0; what < 7; what++) {
            due("tied: knot(2, " + what + ")", x.knot(2, what), told[what]);
        }
        for (int k = 3; k < 8; k++) {
            due("tie more", x.tie(0, 1, 0, 0, 0), k);
        }
        due("tie a ninth", x.tie(0, 1, 0, 0, 0), FULL);
        due("NO ahead of FULL", x.tie(0, 2, 0, 0, 0), NO);
        due("NO ahead of FULL", x.tie(0, 1, 1, 0, 0), NO);
        due("BAD ahead of FULL", x.tie(0, 1, 256, 0, 0), BAD);
        due("count(1)", x.count(1), 8);
        x.undo(7);
        due("an undone one counts for FULL", x.tie(0, 1, 0, 0, 0), FULL);
    }

    private static void pull() {
        TiedToTown x = laid("p1;p0;k0,1,0,0,1;k0,1,1,0,1;k0,1,0,0,0;k0,1,4,0,1;k0,1,1,0,1;");
        due("pull(5)", x.pull(5), BAD);
        due("pull(-1)", x.pull(-1), BAD);
        due("pull(2), that is PLAIN", x.pull(2), NO);
        due("pull(0) with two above", x.pull(0), 3);
        due("pull(0) again", x.pull(0), NO);
        due("count(2)", x.count(2), 2);
        due("pull(3)", x.pull(3), 1);
        due("count(5)", x.count(5), 2);
        TiedToTown y = laid("p1;p1;k0,1,0,0,1;k0,1,1,0,1;k0,1,2,0,2;");
        due("pull(0) under a TIGHT one", y.pull(0), NO);
        due("count(5) after NO", y.count(5), 0);
    }

    private static void cut() {
        TiedToTown x = laid("p0;p0;k0,1,0,0,0;k0,1,1,9,2;k0,1,2,0,3;k0,1,0,0,0;");
        due("cut(4)", x.cut(4), BAD);
        due("cut(-1)", x.cut(-1), BAD);
        due("cut(1)", x.cut(1), 2);
        due("cut(2), that is undone", x.cut(2), NO);
        due("count(2)", x.count(2), 2);
        due("cut(0)", x.cut(0), 1);
        due("count(5)", x.count(5), 2);
        x.takeBack();
        due("all of one call are TAKEN BACK", x.takeBack(), 0);
        due("count(2) then", x.count(2), 4);
    }

    private static void days() {
        TiedToTown x = new TiedToTown();
        due("days(0)", x.days(0), BAD);
        due("days(-1)", x.days(-1), BAD);
        due("days(100)", x.days(100), BAD);
        due("days(MAX)", x.days(MAX), BAD);
        due("days(1)", x.days(1), 1);
        due("days(99)", x.days(99), NO);
        due("days(98)", x.days(98), 99);
        due("days(1) on day 99", x.days(1), NO);
        due("days(100) on day 99", x.days(100), BAD);
        due("count(3)", x.count(3), 99);
        due("count(5)", x.count(5), 2);
    }

    private static void takeBack() {
        TiedToTown x = new TiedToTown();
        due("takeBack() of nothing", x.takeBack(), NO);
        for (int i = 0; i < 10; i++) {
            x.days(1);
        }
        due("count(5)", x.count(5), 8);
        x.tell(0);
        due("takeBack()", x.takeBack(), 7);
        due("the told row then", x.count(4), 0);
        for (int i = 6; i >= 0; i--) {
            due("takeBack()", x.takeBack(), i);
        }
        due("takeBack() of a ninth", x.takeBack(), NO);
        due("the day then", x.count(3), 2);
        x.undo(1);
        x.tie(0, 2, 1, 4, 1);
        x.pull(2);
        x.cut(0);
        x.days(4);
        due("takeBack() of days", x.takeBack(), 4);
        due("the day", x.count(3), 2);
        x.takeBack();
        due("a cut TAKEN BACK", x.knot(0, 5), 1);
        x.takeBack();
        due("a pull TAKEN BACK", x.knot(2, 5), 1);
        x.takeBack();
        due("a tie TAKEN BACK", x.count(1), 2);
        due("knot(2, 0) then", x.knot(2, 0), BAD);
        due("an undo TAKEN BACK", x.takeBack(), 0);
        due("count(2) then", x.count(2), 2);
        x.tell(0);
        due("takeBack() of nothing", x.takeBack(), NO);
        due("the told row after NO", x.count(4), 1);
    }

    private static void loosen() {
        TiedToTown x = laid("p1;p1;p1;p1;k0,1,0,0,0;k0,1,1,0,0;k2,3,2,0,0;k1,2,0,0,3;k2,3,0,50,2;");
        due("loosen(2)", x.loosen(2), 0);
        due("loosen(1)", x.loosen(1), 4);
        due("loosen(0)", x.loosen(0), 6);
        due("a SEALED one behind a TIGHT one", x.loosen(3), NONE);
        due("a TIGHT one", x.loosen(4), NONE);
        x.days(50);
        due("a SEALED one", x.loosen(3), 23);
        due("loosen(4) on its day", x.loosen(4), 0);
        x.undo(2);
        due("loosen(2) when undone", x.loosen(2), NO);
        due("loosen(0) then", x.loosen(0), 2);
        due("loosen(5)", x.loosen(5), BAD);
        due("loosen(-1)", x.loosen(-1), BAD);
        TiedToTown y = laid("p1;p1;k0,1,0,0,3;k0,1,0,0,3;");
        due("two SEALED ones of the same", y.loosen(0), NONE);
        TiedToTown z = laid("p1;p1;p1;k0,1,0,0,0;k0,1,0,0,3;k0,2,1,0,0;");
        due("a SEALED one under those above others", z.loosen(1), 5);
    }

    private static void pay() {
        TiedToTown x = laid("p1;p1;p1;k0,1,0,5,0;k1,2,1,9,0;k0,2,0,3,0;k0,1,0,6,2;");
        due("pay(-1) on day 0", x.pay(-1), 0);
        due("pay(0) on day 0", x.pay(0), NONE);
        x.days(2);
        due("pay(-1) the day before", x.pay(-1), 0);
        x.days(1);
        due("pay(-1) on the day", x.pay(-1), 1);
        due("pay(0) on the day", x.pay(0), 2);
        due("pay(1) on the day", x.pay(1), NONE);
        x.days(3);
        int[] turn = {1, 0, 2, 3, NONE};
        due("pay(-1) on day 6", x.pay(-1), 4);
        for (int i = 0; i < turn.length; i++) {
            due("pay(" + i + ") on day 6", x.pay(i), turn[i]);
        }
        due("pay(MAX)", x.pay(MAX), NONE);
        due("pay(-2)", x.pay(-2), BAD);
        due("pay(MIN)", x.pay(MIN), BAD);
        TiedToTown y = laid("p1;p0;k0,1,0,0,0;k0,1,1,9,0;");
        due("pay(-1) with the dead", y.pay(-1), NONE);
        due("pay(0) with the dead", y.pay(0), NONE);
        due("pay(-2) with the dead", y.pay(-2), BAD);
    }

    private static void forEver() {
        due("forEver() at first", new TiedToTown().forEver(), 0);
        TiedToTown x = laid("p1;p0;p1;k0,2,0,5,0;k0,1,1,5,0;k0,2,0,99,2;k0,2,0,0,3;k1,2,0,1,1;");
        due("forEver()", x.forEver(), 27);
        x.cut(1);
        x.cut(4);
        due("forEver() without the dead", x.forEver(), 0);
        x.undo(0);
        due("forEver() of what is TIED", x.forEver(), 0);
        due("two SEALED ones", laid("p1;p1;k0,1,0,0,3;k0,1,0,0,3;").forEver(), 3);
        due("forEver() by ONE", laid("p1;p0;l1;k0,1,0,0,0;").forEver(), 0);
        due("forEver() by TOWN", laid("p0;p0;l2;k0,1,0,0,0;").forEver(), 0);
    }

    private static void frees() {
        TiedToTown x = laid("p1;p0;p0;k0,1,0,0,0;k0,2,0,0,0;k1,2,0,0,0;k0,1,0,0,3;");
        due("frees(0), who lives", x.frees(0), 0);
        due("frees(1)", x.frees(1), 1);
        due("frees(2)", x.frees(2), 1);
        due("frees(3)", x.frees(3), BAD);
        due("frees(-1)", x.frees(-1), BAD);
        due("person(1, 0) after it", x.person(1, 0), 0);
        TiedToTown y = laid("p1;p0;k0,1,0,50,2;k0,1,1,0,0;");
        due("frees(1) of both", y.frees(1), 2);
    }

    private static void fresh() {
        TiedToTown x = laid("p1;p1;k0,1,0,0,0;k0,1,1,0,0;k0,1,2,0,0;k0,1,0,0,0;k0,1,0,0,0;k0,1,0,0,0;");
        due("fresh(6, 0, 0)", x.fresh(6, 0, 0), 63);
        due("fresh(6, 0, 1)", x.fresh(6, 0, 1), 5);
        due("fresh(7, 0, 0)", x.fresh(7, 0, 0), NONE);
        due("fresh(8, 0, 1)", x.fresh(8, 0, 1), NONE);
        due("fresh(3, 1, 0) above 0", x.fresh(3, 1, 0), 56);
        due("fresh(3, 2, 0)", x.fresh(3, 2, 0), 56);
        due("fresh(2, 4, 0)", x.fresh(2, 4, 0), 3);
        due("fresh(4, 4, 0), the lowest of two", x.fresh(4, 4, 0), 27);
        due("fresh(4, 4, 1)", x.fresh(4, 4, 1), 4);
        x.undo(4);
        due("fresh(2, 7, 0) without 4", x.fresh(2, 7, 0), 40);
        due("fresh(2, 7, 1) without 4", x.fresh(2, 7, 1), 2);
        due("fresh(1, 16, 0), 4 is undone", x.fresh(1, 16, 0), 1);
        due("fresh(1, 63, 0)", x.fresh(1, 63, 0), NONE);
        due("fresh(0, 0, 0)", x.fresh(0, 0, 0), BAD);
        due("fresh(9, 0, 0)", x.fresh(9, 0, 0), BAD);
        due("fresh(1, 64, 0)", x.fresh(1, 64, 0), BAD);
        due("fresh(1, -1, 0)", x.fresh(1, -1, 0), BAD);
        due("fresh(1, 0, 2)", x.fresh(1, 0, 2), BAD);
        due("fresh(1, 0, -1)", x.fresh(1, 0, -1), BAD);
        due("BAD ahead of NONE", x.fresh(8, 0, 2), BAD);
    }

    private static void orders() {
        TiedToTown x = laid("p1;p1;k0,1,0,0,0;k0,1,0,0,0;k0,1,0,0,0;k0,1,0,0,0;k0,1,0,0,0;k0,1,0,0,0;k0,1,0,0,0;k0,1,0,0,0;");
        due("orders() of eight", x.orders(), 40320);
        x.undo(3);
        due("orders() of seven", x.orders(), 5040);
        for (int k = 0; k < 8; k++) {
            x.cut(k);
        }
        due("orders() of none", x.orders(), 1);
        due("orders() of a chain", laid("p1;p1;k0,1,0,0,0;k0,1,1,0,0;k0,1,2,0,0;").orders(), 1);
        due("orders() of a fork", laid("p1;p1;k0,1,0,0,0;k0,1,1,0,0;k0,1,1,0,0;").orders(), 2);
        due("orders() of a meeting", laid("p1;p1;k0,1,0,0,0;k0,1,0,0,0;k0,1,3,0,0;k0,1,0,0,0;").orders(), 8);
    }

    /** tell, noRow and judge. */
    private static void toldRow() {
        TiedToTown x = laid("p1;p1;k0,1,0,0,0;k0,1,1,0,0;k0,1,2,0,0;");
        due("judge() of nothing", x.judge(), NONE);
        due("noRow() of nothing", x.noRow(), 0);
        due("tell(3)", x.tell(3), BAD);
        due("tell(-1)", x.tell(-1), BAD);
        due("tell(0)", x.tell(0), 1);
        due("tell(0) again", x.tell(0), NO);
        due("tell(2)", x.tell(2), 2);
        due("judge() ahead of it", x.judge(), NONE);
        due("tell(1)", x.tell(1), 3);
        due("judge()", x.judge(), 1);
        x.cut(0);
        due("judge() whatever is TIED", x.judge(), 1);
        due("noRow()", x.noRow(), 3);
        due("count(4)", x.count(4), 0);
        x.tell(2);
        due("2 is not THROUGH 0 itself", x.tell(0), 2);
        due("judge()", x.judge(), NONE);
        x.undo(1);
        x.year(1, 60, 0);
        due("count(4) after a YEAR", x.count(4), 2);
        x.days(1);
        due("count(4) after days", x.count(4), 2);
        due("a BAD tie", x.tie(0, 0, 0, 0, 0), BAD);
        due("a NO tie", x.tie(0, 1, 1, 0, 0), NO);
        due("count(4) after no tie", x.count(4), 2);
        x.tie(0, 1, 0, 0, 0);
        due("count(4) after a tie", x.count(4), 0);
        x.tell(1);
        x.takeBack();
        due("count(4) after takeBack", x.count(4), 0);
        x.keep();
        x.tell(1);
        x.back();
        due("count(4) after back", x.count(4), 0);
        x.tell(1);
        due("back() of nothing", x.back(), NO);
        due("count(4) after NO", x.count(4), 1);
    }

    private static void cross() {
        TiedToTown x = new TiedToTown();
        due("cross(-1, 0)", x.cross(-1, 0), BAD);
        due("cross(2, 0)", x.cross(2, 0), BAD);
        due("cross(0, -1)", x.cross(0, -1), BAD);
        due("cross(0, 8)", x.cross(0, 8), BAD);
        due("cross(MIN, MAX)", x.cross(MIN, MAX), BAD);
        for (int i = 1; i <= 16; i++) {
            due("cross(1, " + i % 2 + ")", x.cross(1, i % 2), i);
        }
        due("cross(1, 7) when full", x.cross(1, 7), FULL);
        due("cross(1, 8) when full", x.cross(1, 8), BAD);
        due("all of it is taken out", x.loose(1, -1), 0);
        due("cross(0, 7)", x.cross(0, 7), 1);
    }

    private static void smooth() {
        TiedToTown x = new TiedToTown();
        rope(x, 0, 1, 2, 3);
        rope(x, 1, 4);
        due("smooth(2)", x.smooth(2), BAD);
        due("smooth(-1)", x.smooth(-1), BAD);
        due("smooth(0)", x.smooth(0), 3);
        due("loose(0, -1)", x.loose(0, -1), 0);
        due("mark(0, 0)", x.mark(0, 0), 100);
        due("smooth(0) again", x.smooth(0), 0);
        due("smooth(1)", x.smooth(1), 1);
    }

    private static void loose() {
        TiedToTown x = new TiedToTown();
        rope(x, 0, 0, 2, 4, 5, 3, 6);
        due("loose(0, -1)", x.loose(0, -1), 2);
        due("loose(0, 0)", x.loose(0, 0), 0);
        due("loose(0, 1)", x.loose(0, 1), 6);
        due("loose(0, 2)", x.loose(0, 2), NONE);
        due("loose(0, MAX)", x.loose(0, MAX), NONE);
        due("loose(0, -2)", x.loose(0, -2), BAD);
        due("loose(2, 0)", x.loose(2, 0), BAD);
        due("loose(-1, 0)", x.loose(-1, 0), BAD);
        due("loose(1, 0)", x.loose(1, 0), NONE);
        rope(x, 1, 1, 2, 4, 4, 1, 3);
        due("no pair: strands unlike, or both the same way", x.loose(1, -1), 6);
        rope(x, 1, 1, 0, 1);
        due("of three one stays", x.loose(1, -1), 1);
        due("which", x.loose(1, 0), 1);
    }

    private static void alike() {
        TiedToTown x = new TiedToTown();
        due("alike() of none", x.alike(), 2);
        rope(x, 0, 2, 4, 5);
        rope(x, 1, 2);
        due("the same, LOOSENED", x.alike(), 2);
        rope(x, 0, 0, 2, 4, 1);
        rope(x, 1, 4, 2);
        due("turned, the ends taken out", x.alike(), 1);
        rope(x, 1, 2, 4);
        due("the ends taken out", x.alike(), 1);
        rope(x, 1, 6, 4, 2, 7);
        due("the ends of both taken out", x.alike(), 1);
        rope(x, 1, 2, 4, 6);
        due("one is longer", x.alike(), 0);
        rope(x, 1, 3, 5);
        due("the other way", x.alike(), 0);
        rope(x, 0, 0, 0, 2, 4);
        rope(x, 1, 2, 4, 0, 0);
        due("turned by two", x.alike(), 1);
        rope(x, 1, 4, 2, 0, 0);
        due("read from behind", x.alike(), 0);
        rope(x, 0);
        due("with none", x.alike(), 0);
        rope(x, 1, 0, 2, 3, 1);
        due("with none, LOOSENED", x.alike(), 2);
        rope(x, 0, 0, 2, 4, 6, 5, 3, 1);
        rope(x, 1, 6);
        due("three pairs of ends taken out", x.alike(), 1);
        rope(x, 0, 0, 2, 4, 2, 4, 3, 1);
        rope(x, 1, 4, 4, 2);
        due("two pairs of ends taken out, turned", x.alike(), 1);
        rope(x, 1, 4, 4, 3);
        due("with one over for under", x.alike(), 0);
    }

    private static void mark() {
        TiedToTown x = new TiedToTown();
        rope(x, 0, 0, 0, 0, 1, 3, 3, 4, 5, 7);
        int[] marks = {102, 98, 100, 99};
        for (int strand = 0; strand < 4; strand++) {
            due("mark(0, " + strand + ")", x.mark(0, strand), marks[strand]);
            due("mark(1, " + strand + ")", x.mark(1, strand), 100);
        }
        due("mark(0, 4)", x.mark(0, 4), BAD);
        due("mark(0, -1)", x.mark(0, -1), BAD);
        due("mark(2, 0)", x.mark(2, 0), BAD);
        due("mark(-1, 0)", x.mark(-1, 0), BAD);
        for (int c = 0; c < 8; c++) {
            rope(x, 0, c);
            due("mark of " + c, x.mark(0, c / 2), c % 2 == 0 ? 101 : 99);
            due("mark of another", x.mark(0, (c / 2 + 1) % 4), 100);
        }
        x.smooth(0);
        for (int i = 0; i < 16; i++) {
            x.cross(0, 7);
        }
        due("the lowest mark", x.mark(0, 3), 84);
    }

    private static void year() {
        TiedToTown x = new TiedToTown();
        due("year(-1, 1, 0)", x.year(-1, 1, 0), BAD);
        due("year(10000, 1, 0)", x.year(10000, 1, 0), BAD);
        due("year(0, 0, 0)", x.year(0, 0, 0), BAD);
        due("year(0, 61, 0)", x.year(0, 61, 0), BAD);
        due("year(0, 1, -1)", x.year(0, 1, -1), BAD);
        due("year(0, 1, 2)", x.year(0, 1, 2), BAD);
        // x = 1: 1 modulo 2 = 1: knot 1 is undone.
        due("year(0, 1, 0)", x.year(0, 1, 0), 1);
        due("year(0, 1, 1)", x.year(0, 1, 1), 1);
        // x = 6152: 37847104 modulo 65521 = 41487: knot 1 again, tied again.
        due("year(0, 2, 0)", x.year(0, 2, 0), 3);
        due("year(0, 2, 1)", x.year(0, 2, 1), 2);
        due("count(2) after a YEAR", x.count(2), 2);
        due("count(3) after a YEAR", x.count(3), 0);
        due("count(5) after a YEAR", x.count(5), 0);
        TiedToTown y = laid("p1;p0;k0,1,0,0,0;");
        y.cut(0);
        due("the dead tie no more", y.year(3, 60, 1), 0);
        TiedToTown z = laid("p1;p1;k0,1,0,1,2;");
        due("a TIGHT one, days do not go by", z.year(3, 60, 1), 0);
        z.days(1);
        due("a TIGHT one on its day", z.year(9999, 60, 1), 60);
        due("as it was", z.year(9999, 60, 0), 1);
    }

    private static void keepAndBack() {
        TiedToTown x = new TiedToTown();
        due("back() of nothing", x.back(), NO);
        x.undo(1);
        due("keep()", x.keep(), 1);
        due("count(5) after keep", x.count(5), 1);
        x.tie(0, 2, 1, 7, 1);
        x.days(9);
        due("keep()", x.keep(), 2);
        due("a third keep()", x.keep(), FULL);
        due("count(6)", x.count(6), 2);
        x.takeBack();
        x.takeBack();
        x.tie(1, 0, 0, 3, 3);
        put(x, "p1;");
        rope(x, 0, 5);
        due("back()", x.back(), 1);
        int[] told = {0, 2, 1, 7, 1, 1, 0};
        for (int what = 0; what < 7; what++) {
            due("back: knot(2, " + what + ")", x.knot(2, what), told[what]);
        }
        due("back: the day", x.count(3), 9);
        due("back: THE TEXT stays", x.count(7), 3);
        due("back: ROPES stay", x.loose(0, -1), 1);
        due("back: nothing to take back", x.takeBack(), NO);
        due("back() once more", x.back(), 0);
        due("back: count(1)", x.count(1), 2);
        due("back: count(2)", x.count(2), 1);
        due("back: the day", x.count(3), 0);
        due("back() of nothing", x.back(), NO);
        due("keep() again", x.keep(), 1);
    }

    private static void count() {
        TiedToTown x = laid("p1;p1;l2;k0,1,0,5,0;");
        x.days(7);
        x.cut(0);
        x.tie(0, 1, 0, 0, 0);
        x.tell(0);
        x.keep();
        int[] counts = {2, 2, 1, 7, 1, 3, 1, 20, 2};
        for (int what = 0; what < counts.length; what++) {
            due("count(" + what + ")", x.count(what), counts[what]);
        }
        due("count(-1)", x.count(-1), BAD);
        due("count(9)", x.count(9), BAD);
        due("count(MIN)", x.count(MIN), BAD);
        due("count(MAX)", x.count(MAX), BAD);
    }
}
