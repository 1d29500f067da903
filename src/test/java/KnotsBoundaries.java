/** Promises 8 to 14: a test for each sentence with a boundary, the answers taken from its words. */
public final class KnotsBoundaries extends Answers {
    private static final String TWO = "p1;p1;";
    private static final int[] NO_KNOTS_OF_TWO = {-1, 2, 3, 7, 8, 31, 32, 33, MIN, MIN + 1, MAX};

    public static void main(String[] args) {
        mayNumbers();
        mayIfTied();
        mayIfNoneIsThrough();
        mayByLaw();
        mayTight();
        maySealed();
        undo();
        tieBad();
        tieNo();
        tieFull();
        tieTells();
        pull();
        pullKinds();
        cut();
        days();
        takeBackNumber();
        takeBackWhat();
        takeBackNothingElse();
        mustHaveAsked(8, 14);
        end();
    }

    /** Eight of the first two, each THROUGH the one ahead of it. */
    private static String chain(int kind) {
        StringBuilder s = new StringBuilder(TWO);
        for (int k = 0; k < 8; k++) {
            s.append(knot(0, 1, k == 0 ? 0 : 1 << (k - 1), 50, kind));
        }
        return s.toString();
    }

    private static void mayNumbers() {
        sentence(8, "Whether a KNOT MAY be undone: 1, 0. BAD.");
        TiedToTown x = new TiedToTown();
        for (int far : NO_KNOTS_OF_TWO) {
            due("may(" + far + ")", x.may(far), BAD);
        }
        due("may(0)", x.may(0), 0);
        due("may(1)", x.may(1), 1);
        x.tie(0, 1, 0, 0, 0);
        due("may(2), a new one", x.may(2), 1);
        due("may(3)", x.may(3), BAD);
        x.takeBack();
        due("may(2), TAKEN BACK", x.may(2), BAD);
        due("may(7) of eight", laid(chain(0)).may(7), 1);
        due("may(8) of eight", laid(chain(0)).may(8), BAD);
    }

    private static void mayIfTied() {
        sentence(8, "A KNOT MAY be undone, if it is TIED");
        TiedToTown x = laid("p0;p0;l2;" + knot(0, 1, 0, 0, 0) + knot(0, 1, 0, 0, 0));
        due("TIED: may(0)", x.may(0), 1);
        x.undo(0);
        due("UNDONE: may(0)", x.may(0), 0);
        x.cut(1);
        due("CUT: may(1)", x.may(1), 0);
        x.takeBack();
        due("TIED once more: may(1)", x.may(1), 1);
    }

    private static void mayIfNoneIsThrough() {
        sentence(8, "no TIED one is THROUGH it");
        TiedToTown x = laid(TWO + knot(0, 1, 0, 0, 0) + knot(0, 1, 1, 0, 0) + knot(0, 1, 1, 0, 0));
        due("two are THROUGH it", x.may(0), 0);
        x.undo(1);
        due("one is THROUGH it", x.may(0), 0);
        x.undo(2);
        due("none that is TIED is THROUGH it", x.may(0), 1);
        TiedToTown y = laid(chain(0));
        for (int k = 0; k < 8; k++) {
            due("a chain of eight: may(" + k + ")", y.may(k), k == 7 ? 1 : 0);
        }
        TiedToTown z = laid("p0;p0;l2;" + knot(0, 1, 0, 0, 0) + knot(0, 1, 1, 0, 0));
        due("by TOWN, too", z.may(0), 0);
    }

    private static void mayByLaw() {
        sentence(8, "by BOTH both its PERSONS are alive, by ONE one of them at least, by TOWN whoever");
        for (int law = 0; law <= 2; law++) {
            for (int a = 0; a <= 1; a++) {
                for (int b = 0; b <= 1; b++) {
                    boolean so = a + b >= 2 - law;
                    TiedToTown x = laid("p1;" + people(a, b) + "p0;" + knot(1, 2, 0, 0, 0) + "l" + law + ";");
                    due("law " + law + ", of " + a + " and " + b, x.may(0), so ? 1 : 0);
                    due("law " + law + ", of " + a + " and " + b + ", undo", x.undo(0), so ? 0 : NO);
                }
            }
        }
    }

    private static void mayTight() {
        sentence(8, "a TIGHT one on its day D or later");
        for (int d : new int[] {0, 1, 2, 50, 98, 99}) {
            for (int day = Math.max(0, d - 2); day <= Math.min(99, d + 2); day++) {
                for (int kind = 0; kind <= 3; kind++) {
                    TiedToTown x = laid(TWO + knot(0, 1, 0, d, kind));
                    x.days(day);
                    due("KIND " + kind + ", due on " + d + ", today " + day, x.may(0), kind != 2 || day >= d ? 1 : 0);
                }
            }
        }
    }

    private static void maySealed() {
        sentence(8, "a SEALED one, if none of its two PERSONS has another TIED KNOT");
        int[][] others = {{0, 2, 0}, {2, 0, 0}, {1, 2, 0}, {2, 1, 0}, {0, 1, 0}, {1, 0, 0}, {2, 3, 1}};
        for (int[] o : others) {
            TiedToTown behind = laid("p1;p1;p1;p1;" + knot(0, 1, 0, 0, 3) + knot(o[0], o[1], 0, 0, 1));
            due("another behind it of " + o[0] + " and " + o[1], behind.may(0), o[2]);
            TiedToTown ahead = laid("p1;p1;p1;p1;" + knot(o[0], o[1], 0, 0, 1) + knot(0, 1, 0, 0, 3));
            due("another ahead of it of " + o[0] + " and " + o[1], ahead.may(1), o[2]);
            due("the other is not SEALED", ahead.may(0), 1);
            behind.undo(1);
            due("the other is UNDONE", behind.may(0), 1);
        }
        TiedToTown under = laid(TWO + knot(0, 1, 0, 0, 0) + knot(0, 1, 1, 0, 3));
        due("the one that it is THROUGH is another", under.may(1), 0);
        TiedToTown alone = laid("p0;p1;l1;" + knot(0, 1, 0, 99, 3));
        due("alone, ahead of its day, by ONE", alone.may(0), 1);
        due("alone, but by BOTH", laid("p0;p1;" + knot(0, 1, 0, 99, 3)).may(0), 0);
        TiedToTown two = laid("p1;p1;p1;p1;" + knot(0, 1, 0, 0, 3) + knot(2, 3, 0, 0, 3));
        due("two SEALED of others", two.may(0) + 2 * two.may(1), 3);
        TiedToTown dead = laid("p1;p1;p0;" + knot(0, 1, 0, 0, 3) + knot(0, 2, 0, 0, 0));
        due("another with one who is dead", dead.may(0), 0);
    }

    private static void undo() {
        sentence(9, "UNDONE: how many are TIED still. BAD; NO.");
        TiedToTown x = new TiedToTown();
        for (int far : NO_KNOTS_OF_TWO) {
            due("undo(" + far + ")", x.undo(far), BAD);
        }
        due("undo(0), that is under one", x.undo(0), NO);
        due("undo(1)", x.undo(1), 1);
        due("undo(1) again", x.undo(1), NO);
        due("undo(0), the last one", x.undo(0), 0);
        due("undo(0) again", x.undo(0), NO);
        due("count(2)", x.count(2), 0);
        due("count(1)", x.count(1), 2);
        TiedToTown y = laid(chain(0));
        for (int k = 7; k >= 0; k--) {
            due("undo(" + (k - 1) + ") ahead of its turn", y.undo(k - 1), k == 0 ? BAD : NO);
            due("undo(" + k + ") of a chain", y.undo(k), k);
        }
        due("undo(8) of eight", y.undo(8), BAD);
        TiedToTown z = laid(TWO + knot(0, 1, 0, 3, 2));
        z.days(2);
        due("undo(0) a day too early", z.undo(0), NO);
        z.days(1);
        due("undo(0) on its day", z.undo(0), 0);
    }

    private static void tieBad() {
        sentence(10, "BAD (as in THE TEXT)");
        int[] far = {MIN, MIN + 1, -2, -1, 3, 4, 6, 31, 32, 33, MAX};
        TiedToTown x = new TiedToTown();
        for (int i : far) {
            due("tie(" + i + ", 0, ..)", x.tie(i, 0, 0, 0, 0), BAD);
            due("tie(0, " + i + ", ..)", x.tie(0, i, 0, 0, 0), BAD);
            due("tie(" + i + ", " + i + ", ..)", x.tie(i, i, 0, 0, 0), BAD);
        }
        for (int i = 0; i < 3; i++) {
            due("tie(" + i + ", " + i + ", ..)", x.tie(i, i, 0, 0, 0), BAD);
        }
        for (int s : new int[] {MIN, MIN + 1, -1, -2, 4, 5, 7, 8, 255, 256, 1 << 30, MAX}) {
            due("tie THROUGH " + s, x.tie(0, 1, s, 0, 0), BAD);
        }
        for (int d : new int[] {MIN, -1, 100, 101, 999, MAX}) {
            due("tie due on " + d, x.tie(0, 1, 0, d, 0), BAD);
        }
        for (int kind : new int[] {MIN, -1, 4, 5, 9, MAX}) {
            due("tie of KIND " + kind, x.tie(0, 1, 0, 0, kind), BAD);
        }
        due("count(1)", x.count(1), 2);
        due("count(5)", x.count(5), 0);
        due("D 0, KIND 0, THROUGH none", x.tie(0, 1, 0, 0, 0), 2);
        due("D 99, KIND 3, THROUGH all", x.tie(2, 1, 7, 99, 3), 3);
        knotIs("told: ", x, 3, 2, 1, 7, 99, 3, 1, 0);
        due("PERSON 5 of six", laid("p1;".repeat(6) + knot(0, 1, 0, 0, 0)).tie(5, 4, 0, 0, 0), 1);
        due("PERSON 6 of six", laid("p1;".repeat(6) + knot(0, 1, 0, 0, 0)).tie(6, 4, 0, 0, 0), BAD);
    }

    private static void tieNo() {
        sentence(10, "NO: one is dead, not all of S are TIED");
        for (int law = 0; law <= 2; law++) {
            TiedToTown x = laid("p1;p0;p1;p0;l" + law + ";" + knot(0, 2, 0, 0, 0) + knot(0, 2, 0, 0, 0));
            due("the first is dead", x.tie(1, 0, 0, 0, 0), NO);
            due("the second is dead", x.tie(0, 1, 0, 0, 0), NO);
            due("both are dead", x.tie(1, 3, 0, 0, 0), NO);
            due("none is dead", x.tie(0, 2, 3, 0, 0), 2);
            x.cut(1);
            due("one of S is UNDONE", x.tie(0, 2, 3, 0, 0), NO);
            due("all of S are UNDONE", x.tie(0, 2, 2, 0, 0), NO);
            due("THROUGH what came UNDONE with it", x.tie(0, 2, 4, 0, 0), NO);
            due("all of S are TIED", x.tie(0, 2, 1, 0, 0), 3);
            due("BAD ahead of NO", x.tie(1, 0, 16, 0, 0), BAD);
            due("BAD ahead of NO", x.tie(1, 1, 0, 0, 0), BAD);
            due("BAD ahead of NO", x.tie(1, 0, 0, 100, 0), BAD);
            due("BAD ahead of NO", x.tie(0, 2, 2, 0, 4), BAD);
            due("count(1)", x.count(1), 4);
        }
    }

    private static void tieFull() {
        sentence(10, "8 in all at most");
        TiedToTown x = laid("p1;p1;p0;" + knot(0, 1, 0, 0, 0) + knot(0, 1, 0, 0, 0));
        for (int k = 2; k < 8; k++) {
            due("tie", x.tie(0, 1, (1 << k) - 1, 0, 0), k);
        }
        due("a ninth", x.tie(0, 1, 0, 0, 0), FULL);
        due("a ninth THROUGH all", x.tie(0, 1, 255, 0, 0), FULL);
        due("BAD ahead of FULL", x.tie(0, 1, 256, 0, 0), BAD);
        due("BAD ahead of FULL", x.tie(0, 0, 0, 0, 0), BAD);
        due("NO ahead of FULL", x.tie(0, 2, 0, 0, 0), NO);
        x.undo(7);
        due("NO ahead of FULL", x.tie(0, 1, 128, 0, 0), NO);
        due("what is UNDONE counts", x.tie(0, 1, 0, 0, 0), FULL);
        x.cut(0);
        x.cut(1);
        due("all are UNDONE", x.count(2), 0);
        due("and count", x.tie(0, 1, 0, 0, 0), FULL);
        x.takeBack();
        x.takeBack();
        x.takeBack();
        x.takeBack();
        due("count(1), the eighth TAKEN BACK", x.count(1), 7);
        due("an eighth", x.tie(1, 0, 0, 9, 1), 7);
        due("a ninth", x.tie(1, 0, 0, 9, 1), FULL);
        due("a told ninth", laid(chain(0)).tie(0, 1, 0, 0, 0), FULL);
    }

    private static void tieTells() {
        sentence(10, "A new one is TIED: its number.");
        TiedToTown x = new TiedToTown();
        x.cut(0);
        due("all are UNDONE: the number counts them", x.tie(0, 2, 0, 0, 3), 2);
        knotIs("TIED: ", x, 2, 0, 2, 0, 0, 3, 1, 0);
        due("count(1)", x.count(1), 3);
        due("count(2)", x.count(2), 1);
        x.days(99);
        due("TIED on day 99, due long ago", x.tie(0, 1, 4, 0, 2), 3);
        due("may(3)", x.may(3), 1);
        due("pay(-1)", x.pay(-1), 2);
    }

    private static void pull() {
        sentence(11, "PULLED: how many came UNDONE. BAD; NO.");
        TiedToTown x = laid(chain(1));
        for (int far : new int[] {-1, 8, 9, 31, 32, MIN, MAX}) {
            due("pull(" + far + ")", x.pull(far), BAD);
        }
        due("pull(7), it alone", x.pull(7), 1);
        due("pull(7) again", x.pull(7), NO);
        due("pull(4), it and two ABOVE it", x.pull(4), 3);
        due("pull(5), that came UNDONE", x.pull(5), NO);
        due("pull(0), it and three ABOVE it", x.pull(0), 4);
        due("count(2)", x.count(2), 0);
        due("count(5)", x.count(5), 3);
        due("all eight", laid(chain(1)).pull(0), 8);
        TiedToTown y = laid("p1;p1;p1;" + knot(0, 1, 0, 0, 1) + knot(0, 1, 0, 0, 1) + knot(0, 1, 1, 0, 1) + knot(1, 2, 4, 0, 1));
        due("pull(0), not one beside it", y.pull(0), 3);
        due("may(1)", y.may(1), 1);
    }

    private static void pullKinds() {
        sentence(11, "if it is TIED and all of these (it, too) are SLIP, whoever lives");
        for (int kind = 0; kind <= 3; kind++) {
            for (int at = 0; at < 4; at++) {
                StringBuilder s = new StringBuilder("p0;p0;");
                for (int k = 0; k < 4; k++) {
                    s.append(knot(0, 1, k == 0 ? 0 : 1 << (k - 1), 99, k == at ? kind : 1));
                }
                for (int k = 0; k < 4; k++) {
                    boolean so = kind == 1 || k > at;
                    TiedToTown x = laid(s.toString());
                    due("pull(" + k + "), KIND " + kind + " at " + at, x.pull(k), so ? 4 - k : NO);
                    due("count(2) then", x.count(2), so ? k : 4);
                    due("count(5) then", x.count(5), so ? 1 : 0);
                }
            }
        }
        TiedToTown x = laid("p0;p0;" + knot(0, 1, 0, 0, 1) + knot(0, 1, 1, 0, 0));
        due("one ABOVE it is PLAIN", x.pull(0), NO);
        x.cut(1);
        due("one that is UNDONE is not ABOVE it", x.pull(0), 1);
        TiedToTown y = laid("p0;p0;" + knot(0, 1, 0, 0, 0) + knot(0, 1, 1, 0, 1));
        due("one under it need not be SLIP", y.pull(1), 1);
    }

    private static void cut() {
        sentence(12, "CUT: how many came UNDONE. BAD; NO: it is not TIED.");
        for (int kind = 0; kind <= 3; kind++) {
            TiedToTown x = laid(chain(kind).replace("p1", "p0"));
            for (int far : new int[] {-1, 8, 9, 31, 32, MIN, MAX}) {
                due("cut(" + far + ")", x.cut(far), BAD);
            }
            due("cut(7), it alone", x.cut(7), 1);
            due("cut(7) again", x.cut(7), NO);
            due("cut(4), it and two ABOVE it", x.cut(4), 3);
            due("cut(6), that came UNDONE", x.cut(6), NO);
            due("cut(0), it and three ABOVE it", x.cut(0), 4);
            due("cut(0) again", x.cut(0), NO);
            due("count(2)", x.count(2), 0);
            due("count(5)", x.count(5), 3);
            due("all eight", laid(chain(kind)).cut(0), 8);
        }
        TiedToTown y = laid("p0;p0;" + knot(0, 1, 0, 0, 0) + knot(0, 1, 0, 0, 3) + knot(0, 1, 1, 9, 2));
        due("cut(0), not one beside it", y.cut(0), 2);
        due("count(2)", y.count(2), 1);
    }

    private static void days() {
        sentence(13, "n days (1 to 99) go by: the day. BAD; NO: above 99.");
        TiedToTown x = new TiedToTown();
        for (int n : new int[] {0, -1, -99, 100, 101, MIN, MAX}) {
            due("days(" + n + ")", x.days(n), BAD);
        }
        due("count(3)", x.count(3), 0);
        due("days(1)", x.days(1), 1);
        due("days(99) on day 1", x.days(99), NO);
        due("count(3), after NO", x.count(3), 1);
        due("days(97)", x.days(97), 98);
        due("days(2) on day 98", x.days(2), NO);
        due("days(1) on day 98", x.days(1), 99);
        due("days(1) on day 99", x.days(1), NO);
        due("days(99) on day 99", x.days(99), NO);
        due("days(0) on day 99", x.days(0), BAD);
        due("days(100) on day 99", x.days(100), BAD);
        due("days(MAX) on day 99", x.days(MAX), BAD);
        due("count(3)", x.count(3), 99);
        due("count(5)", x.count(5), 3);
        due("days(99) on day 0", new TiedToTown().days(99), 99);
        TiedToTown y = new TiedToTown();
        y.days(49);
        due("days(51) on day 49", y.days(51), NO);
        due("days(50) on day 49", y.days(50), 99);
    }

    private static void takeBackNumber() {
        sentence(14, "TAKEN BACK: how many more can be. NO.");
        TiedToTown x = new TiedToTown();
        due("takeBack() of nothing", x.takeBack(), NO);
        x.days(1);
        due("takeBack() of one", x.takeBack(), 0);
        due("takeBack() of nothing more", x.takeBack(), NO);
        sentence(14, "the last 8 can be");
        for (int done = 1; done <= 12; done++) {
            TiedToTown y = new TiedToTown();
            for (int i = 0; i < done; i++) {
                y.days(i + 1);
                due("count(5)", y.count(5), Math.min(8, i + 1));
            }
            int can = Math.min(8, done);
            for (int i = 1; i <= can; i++) {
                due("takeBack() of " + done, y.takeBack(), can - i);
                due("the day then", y.count(3), (done - i) * (done - i + 1) / 2);
            }
            due("takeBack() of a ninth", y.takeBack(), NO);
        }
        for (int more = 0; more <= 9; more++) {
            eachAsItWas(more);
        }
        TiedToTown z = new TiedToTown();
        for (int i = 0; i < 8; i++) {
            z.days(1);
        }
        z.takeBack();
        z.takeBack();
        z.days(9);
        due("one more behind two TAKEN BACK", z.count(5), 7);
        due("it is the latest then", z.takeBack(), 6);
        due("the day", z.count(3), 6);
    }

    /** Of all kinds of doing one behind the other, then so many days: each of the last eight is TAKEN BACK. */
    private static void eachAsItWas(int more) {
        TiedToTown x = laid("p1;p1;" + knot(0, 1, 0, 0, 1) + knot(0, 1, 1, 0, 1) + knot(0, 1, 0, 0, 0) + knot(0, 1, 4, 0, 0));
        int[] knots = {4, 4, 4, 5, 5, 6, 6, 6, 6, 6, 6, 6, 6, 6, 6, 6, 6, 6};
        int[] tied = {15, 7, 3, 19, 16, 48, 32, 0, 0, 0, 0, 0, 0, 0, 0, 0, 0, 0};
        x.undo(3);
        x.undo(2);
        x.tie(1, 0, 0, 9, 1);
        x.pull(0);
        x.tie(1, 0, 16, 9, 1);
        due("undo(4), under one", x.undo(4), NO);
        x.takeBack();
        x.tie(1, 0, 0, 9, 1);
        x.cut(4);
        x.cut(5);
        for (int i = 0; i < more; i++) {
            x.days(1);
        }
        for (int state = 6 + more; state >= Math.max(0, more - 1); state--) {
            due("takeBack(), " + more + " days behind", x.takeBack(), state - Math.max(0, more - 1));
            due("count(1) as it was", x.count(1), knots[state]);
            due("count(3) as it was", x.count(3), Math.max(0, state - 7));
            for (int k = 0; k < 6; k++) {
                due("knot(" + k + ", 5) as it was", x.knot(k, 5), k >= knots[state] ? BAD : tied[state] >> k & 1);
            }
        }
        due("takeBack() of a ninth", x.takeBack(), NO);
    }

    private static void takeBackWhat() {
        sentence(14, "TAKEN BACK is the latest of all these (all of one call at once");
        TiedToTown x = laid("p1;p1;p1;" + knot(0, 1, 0, 0, 1) + knot(1, 2, 1, 0, 1) + knot(0, 2, 2, 0, 1));
        x.undo(2);
        due("UNDONE, TAKEN BACK", x.takeBack(), 0);
        due("count(2)", x.count(2), 3);
        x.pull(0);
        due("PULLED", x.count(2), 0);
        due("PULLED, TAKEN BACK", x.takeBack(), 0);
        due("count(2)", x.count(2), 3);
        x.cut(1);
        due("CUT", x.count(2), 1);
        due("CUT, TAKEN BACK", x.takeBack(), 0);
        due("count(2)", x.count(2), 3);
        x.tie(0, 1, 7, 9, 3);
        due("TIED", x.count(1), 4);
        due("knot(0, 6)", x.knot(0, 6), 14);
        due("TIED, TAKEN BACK", x.takeBack(), 0);
        due("count(1)", x.count(1), 3);
        due("knot(0, 6)", x.knot(0, 6), 6);
        due("person(0, 1)", x.person(0, 1), 5);
        due("tie THROUGH what was TAKEN BACK", x.tie(0, 1, 8, 0, 0), BAD);
        x.days(99);
        due("days, TAKEN BACK", x.takeBack(), 0);
        due("count(3)", x.count(3), 0);
        sameWhole("all TAKEN BACK: ", x, laid("p1;p1;p1;" + knot(0, 1, 0, 0, 1) + knot(1, 2, 1, 0, 1) + knot(0, 2, 2, 0, 1)));
        sentence(14, "it is empty as soon as a new one is TIED (not by a YEAR), something TAKEN BACK, or back() is done");
        TiedToTown y = new TiedToTown();
        y.tell(0);
        due("takeBack() of nothing", y.takeBack(), NO);
        due("count(4), nothing was TAKEN BACK", y.count(4), 1);
        y.days(1);
        y.takeBack();
        due("count(4), something was TAKEN BACK", y.count(4), 0);
    }

    private static void takeBackNothingElse() {
        sentence(14, "TAKEN BACK is the latest of all these");
        TiedToTown x = new TiedToTown();
        x.days(4);
        x.days(100);
        x.days(96);
        x.undo(0);
        x.undo(2);
        x.cut(2);
        x.pull(0);
        x.tie(0, 0, 0, 0, 0);
        x.tell(1);
        x.noRow();
        x.cross(0, 1);
        x.smooth(0);
        x.year(1, 60, 0);
        x.keep();
        x.write(1, 1);
        x.wipe();
        x.lay();
        x.fault();
        x.pay(0);
        x.loosen(0);
        due("count(5), only the days that went by", x.count(5), 1);
        due("takeBack()", x.takeBack(), 0);
        due("count(3)", x.count(3), 0);
        due("count(6), KEPT still", x.count(6), 1);
        due("what was TAKEN BACK is none of these", x.takeBack(), NO);
        due("back()", x.back(), 0);
        due("count(3)", x.count(3), 4);
        due("nothing is TAKEN BACK then", x.takeBack(), NO);
    }
}
