/** Promises 15 to 23: a test for each sentence with a boundary, the answers taken from its words. */
public final class DueBoundaries extends Answers {
    private static final String TWO = "p1;p1;";
    private static final int[] NO_KNOTS_OF_EIGHT = {-1, 8, 9, 31, 32, 33, MIN, MIN + 1, MAX};

    public static void main(String[] args) {
        loosenNumbers();
        loosenFewest();
        loosenNone();
        payDue();
        payNone();
        payPlaces();
        payTurn();
        forEver();
        forEverDay();
        frees();
        freshNumbers();
        freshStaysFree();
        freshShortest();
        orders();
        tell();
        noRow();
        rowIsEmptied();
        judge();
        mustHaveAsked(15, 23);
        end();
    }

    private static String all(int... throughs) {
        StringBuilder s = new StringBuilder(TWO);
        for (int through : throughs) {
            s.append(knot(0, 1, through, 50, 0));
        }
        return s.toString();
    }

    private static TiedToTown chain() {
        return laid(all(0, 1, 2, 4, 8, 16, 32, 64));
    }

    private static TiedToTown apart() {
        return laid(all(0, 0, 0, 0, 0, 0, 0, 0));
    }

    private static void loosenNumbers() {
        sentence(15, "LOOSEN, as bits. NONE; BAD; NO: it is not TIED.");
        TiedToTown x = chain();
        for (int far : NO_KNOTS_OF_EIGHT) {
            due("loosen(" + far + ")", x.loosen(far), BAD);
        }
        for (int k = 0; k < 8; k++) {
            due("a chain: loosen(" + k + ")", x.loosen(k), 256 - (2 << k));
        }
        due("count(2), nothing is undone by it", x.count(2), 8);
        x.undo(7);
        due("loosen(7), UNDONE", x.loosen(7), NO);
        due("loosen(6) then", x.loosen(6), 0);
        due("loosen(0) then", x.loosen(0), 126);
        TiedToTown dead = laid("p0;p0;" + knot(0, 1, 0, 0, 0) + knot(0, 1, 0, 0, 0));
        due("TIED: loosen(0)", dead.loosen(0), NONE);
        dead.cut(0);
        due("NO ahead of NONE", dead.loosen(0), NO);
        due("BAD ahead of NONE", dead.loosen(2), BAD);
        TiedToTown y = new TiedToTown();
        due("loosen(2) of two", y.loosen(2), BAD);
        y.tie(0, 1, 2, 0, 0);
        due("loosen(2) of three", y.loosen(2), 0);
        due("loosen(1) under it", y.loosen(1), 4);
    }

    private static void loosenFewest() {
        sentence(15, "the fewest others that have to be undone ahead of it, today, so that it can be");
        for (int k = 0; k < 8; k++) {
            due("eight apart: loosen(" + k + ")", apart().loosen(k), 0);
        }
        TiedToTown x = laid(all(0, 0, 1, 3, 2, 8));
        int[] ahead = {44, 56, 0, 32, 0, 0};
        for (int k = 0; k < ahead.length; k++) {
            due("loosen(" + k + ")", x.loosen(k), ahead[k]);
        }
        TiedToTown sealed = laid("p1;p1;p1;p1;" + knot(0, 1, 0, 0, 3) + knot(1, 2, 0, 0, 0) + knot(0, 3, 0, 0, 0)
            + knot(2, 3, 2, 0, 0) + knot(2, 3, 0, 0, 0));
        due("a SEALED one: all of its two, and what is ABOVE these", sealed.loosen(0), 14);
        TiedToTown two = laid("p1;p1;p1;p1;" + knot(0, 1, 0, 0, 3) + knot(1, 2, 0, 0, 3) + knot(2, 3, 0, 0, 0));
        due("a SEALED one with another SEALED one in the way", two.loosen(0), NONE);
    }

    private static void loosenNone() {
        sentence(15, "(each as it MAY be where it comes): the set (bits); none.");
        TiedToTown x = laid(TWO + knot(0, 1, 0, 0, 0) + knot(0, 1, 1, 5, 2));
        due("ahead of the day of one in the way", x.loosen(0), NONE);
        due("ahead of its own day", x.loosen(1), NONE);
        x.days(4);
        due("the day before", x.loosen(0), NONE);
        x.days(1);
        due("on the day", x.loosen(0), 2);
        due("on its own day", x.loosen(1), 0);
        TiedToTown y = laid("p1;p1;p0;" + knot(0, 1, 0, 0, 0) + knot(1, 2, 1, 0, 0) + knot(0, 1, 0, 0, 0));
        due("one who is dead in the way", y.loosen(0), NONE);
        due("and beside it", y.loosen(2), 0);
        TiedToTown z = laid(TWO + knot(0, 1, 0, 0, 3) + knot(0, 1, 1, 0, 0));
        due("SEALED with one ABOVE it", z.loosen(0), 2);
        TiedToTown both = laid(TWO + knot(0, 1, 0, 0, 0) + knot(0, 1, 1, 0, 3));
        due("SEALED THROUGH another of its own", both.loosen(1), NONE);
        due("and the one that it is THROUGH", both.loosen(0), NONE);
    }

    private static void payDue() {
        sentence(16, "all TIED KNOTS whose day D is today or earlier");
        for (int d : new int[] {0, 1, 2, 50, 98, 99}) {
            for (int day = Math.max(0, d - 2); day <= Math.min(99, d + 2); day++) {
                TiedToTown x = laid(TWO + knot(0, 1, 0, d, 0));
                x.days(day);
                due("due on " + d + ", today " + day + ": pay(-1)", x.pay(-1), day >= d ? 1 : 0);
                due("due on " + d + ", today " + day + ": pay(0)", x.pay(0), day >= d ? 0 : NONE);
            }
        }
        sentence(16, "how many (0, if nothing is due)");
        due("nothing is due", new TiedToTown().pay(-1), 0);
        due("nothing is due, one is dead", laid("p0;p1;" + knot(0, 1, 0, 1, 0)).pay(-1), 0);
        TiedToTown x = laid("p0;p1;" + knot(0, 1, 0, 0, 0));
        due("one is due, one is dead", x.pay(-1), NONE);
        x.cut(0);
        due("nothing is TIED", x.pay(-1), 0);
        due("nothing is TIED: pay(0)", x.pay(0), NONE);
        due("due on day 0, today 0", laid(TWO + knot(0, 1, 0, 0, 0)).pay(-1), 1);
    }

    private static void payNone() {
        sentence(16, "none (not all can be)");
        TiedToTown x = laid("p1;p1;p0;" + knot(0, 1, 0, 0, 0) + knot(0, 2, 0, 2, 0));
        due("one is due", x.pay(-1), 1);
        x.days(2);
        for (int i = -1; i < 3; i++) {
            due("one of two can not be: pay(" + i + ")", x.pay(i), NONE);
        }
        TiedToTown y = laid(TWO + knot(0, 1, 0, 0, 0) + knot(0, 1, 1, 3, 2));
        due("a TIGHT one ahead of its day in the way", y.pay(-1), NONE);
        y.days(3);
        due("on its day", y.pay(-1), 2);
        due("pay(0)", y.pay(0), 1);
        due("pay(1)", y.pay(1), 0);
        TiedToTown z = laid("p1;p1;p0;" + knot(0, 1, 0, 0, 0) + knot(0, 2, 0, 9, 0));
        due("what is not due is not in the way", z.pay(-1), 1);
        due("two SEALED ones", laid(TWO + knot(0, 1, 0, 0, 3) + knot(0, 1, 0, 9, 3)).pay(-1), NONE);
    }

    private static void payPlaces() {
        sentence(16, "PAY: how many (i = -1), the i-th. NONE (not so many, too); BAD (i below -1).");
        TiedToTown x = chain();
        for (int i : new int[] {-2, -3, -100, MIN, MIN + 1}) {
            due("pay(" + i + ")", x.pay(i), BAD);
        }
        due("pay(0), nothing is due", x.pay(0), NONE);
        x.days(50);
        due("pay(-1)", x.pay(-1), 8);
        for (int i = 0; i < 8; i++) {
            due("pay(" + i + ") of a chain", x.pay(i), 7 - i);
        }
        for (int i : new int[] {8, 9, 31, 32, 256, MAX}) {
            due("pay(" + i + ")", x.pay(i), NONE);
        }
        due("count(2), nothing is undone by it", x.count(2), 8);
        TiedToTown dead = laid("p0;p0;" + knot(0, 1, 0, 0, 0));
        due("BAD ahead of NONE", dead.pay(-2), BAD);
        TiedToTown one = laid(TWO + knot(0, 1, 0, 0, 0));
        due("pay(1) of one", one.pay(1), NONE);
    }

    private static void payTurn() {
        sentence(16, "the fewest others that have to be undone ahead of these: in turn always the lowest of all these that MAY be");
        TiedToTown apart = apart();
        apart.days(50);
        for (int i = 0; i < 8; i++) {
            due("eight apart: pay(" + i + ")", apart.pay(i), i);
        }
        TiedToTown x = laid(TWO + knot(0, 1, 0, 0, 0) + knot(0, 1, 0, 9, 0) + knot(0, 1, 0, 0, 0) + knot(0, 1, 1, 9, 0)
            + knot(0, 1, 2, 9, 0) + knot(0, 1, 0, 0, 0));
        int[] turn = {2, 3, 0, 5, NONE};
        due("two that are not due stay: pay(-1)", x.pay(-1), 4);
        for (int i = 0; i < turn.length; i++) {
            due("two that are not due stay: pay(" + i + ")", x.pay(i), turn[i]);
        }
        TiedToTown y = laid("p1;p1;p1;" + knot(0, 1, 0, 0, 3) + knot(1, 2, 0, 9, 0) + knot(0, 1, 2, 9, 0) + knot(0, 2, 0, 9, 0));
        int[] sealed = {2, 1, 3, 0, NONE};
        for (int i = 0; i < sealed.length; i++) {
            due("a SEALED one: pay(" + i + ")", y.pay(i), sealed[i]);
        }
    }

    private static void forEver() {
        sentence(17, "FOR EVER: the TIED KNOTS (bits) that can not be undone, whatever others are undone");
        due("none", chain().forEver(), 0);
        due("none of eight apart", apart().forEver(), 0);
        due("all eight", laid(all(0, 1, 2, 4, 8, 16, 32, 64).replace("p1;p1;", "p0;p1;")).forEver(), 255);
        String[] people = {"p1;p1;", "p0;p1;", "p1;p0;", "p0;p0;"};
        int[] lives = {2, 1, 1, 0};
        for (int law = 0; law <= 2; law++) {
            for (int i = 0; i < 4; i++) {
                TiedToTown x = laid(people[i] + "l" + law + ";" + knot(0, 1, 0, 0, 0) + knot(0, 1, 0, 0, 1));
                due("law " + law + ", " + people[i], x.forEver(), lives[i] >= 2 - law ? 0 : 3);
            }
        }
        TiedToTown y = laid("p1;p1;p0;" + knot(0, 1, 0, 0, 0) + knot(1, 2, 1, 0, 0) + knot(0, 1, 2, 0, 0) + knot(0, 1, 0, 0, 3));
        due("what the dead are THROUGH, a SEALED one beside them", y.forEver(), 11);
        y.undo(2);
        due("of what is TIED", y.forEver(), 11);
        y.cut(1);
        due("the one of the dead is CUT", y.forEver(), 0);
        y.cut(0);
        y.cut(3);
        due("nothing is TIED", y.forEver(), 0);
        due("two SEALED ones", laid(TWO + knot(0, 1, 0, 0, 3) + knot(0, 1, 0, 0, 3)).forEver(), 3);
        due("a SEALED one THROUGH one of its own", laid(TWO + knot(0, 1, 0, 0, 0) + knot(0, 1, 1, 0, 3)).forEver(), 3);
        due("a SLIP one of the dead", laid("p0;p0;" + knot(0, 1, 0, 0, 1)).forEver(), 1);
    }

    private static void forEverDay() {
        sentence(17, "were it day 99");
        for (int d : new int[] {0, 1, 98, 99}) {
            TiedToTown x = laid(TWO + knot(0, 1, 0, 0, 0) + knot(0, 1, 1, d, 2));
            due("a TIGHT one due on " + d, x.forEver(), 0);
        }
        TiedToTown x = laid(TWO + knot(0, 1, 0, 0, 3) + knot(0, 1, 0, 99, 2));
        due("a SEALED one beside a TIGHT one due on 99", x.forEver(), 0);
        due("though not today", x.loosen(0), NONE);
        due("the day is as it was", x.count(3), 0);
    }

    private static void frees() {
        sentence(18, "FREES of a PERSON: how many fewer these would be, were he alive.");
        TiedToTown x = laid(people(1, 0, 0, 0) + knot(0, 1, 0, 0, 0) + knot(1, 2, 0, 0, 0) + knot(0, 2, 0, 0, 0));
        int[] fewer = {0, 1, 1, 0};
        for (int i = 0; i < 4; i++) {
            due("frees(" + i + ")", x.frees(i), fewer[i]);
        }
        for (int far : new int[] {-1, 4, 5, 6, 31, 32, MIN, MAX}) {
            due("frees(" + far + ")", x.frees(far), BAD);
        }
        due("he is dead still", x.person(1, 0), 0);
        due("forEver() still", x.forEver(), 7);
        String eight = all(0, 1, 2, 4, 8, 16, 32, 64).substring(6);
        due("all eight", laid("p1;p0;" + eight).frees(1), 8);
        due("all eight, but the other is dead, too", laid("p0;p0;" + eight).frees(1), 0);
        due("all eight by ONE", laid("p0;p0;l1;" + eight).frees(1), 8);
        due("none by ONE, one lives", laid("p1;p0;l1;" + eight).frees(1), 0);
        due("none by TOWN", laid("p0;p0;l2;" + eight).frees(0), 0);
        due("none, two SEALED ones", laid("p1;p0;" + knot(0, 1, 0, 0, 3) + knot(0, 1, 0, 0, 3)).frees(1), 0);
        due("a TIGHT one due on 99", laid("p1;p0;" + knot(0, 1, 0, 99, 2)).frees(1), 1);
        TiedToTown y = laid("p1;p1;p0;" + knot(0, 1, 0, 0, 0) + knot(1, 2, 1, 0, 0) + knot(0, 1, 0, 0, 3));
        due("and those that wait for it", y.frees(2), 3);
        y.cut(1);
        due("nothing hangs on him", y.frees(2), 0);
    }

    private static void freshNumbers() {
        sentence(19, "NEW of m (1 to 8) KNOTS");
        for (int m : new int[] {0, -1, 9, 10, MIN, MAX}) {
            due("fresh(" + m + ", 0, 0)", apart().fresh(m, 0, 0), BAD);
        }
        for (int m = 1; m <= 8; m++) {
            due("fresh(" + m + ", 0, 0)", apart().fresh(m, 0, 0), (1 << m) - 1);
            due("fresh(" + m + ", 0, 1)", apart().fresh(m, 0, 1), m - 1);
        }
        sentence(19, "NEW: the set (what = 0), the rope (1). NONE; BAD.");
        for (int what : new int[] {-1, 2, 3, MIN, MAX}) {
            due("fresh(1, 0, " + what + ")", apart().fresh(1, 0, what), BAD);
        }
        for (int f : new int[] {-1, -2, MIN, 256, 257, 1 << 16, 1 << 30, MAX}) {
            due("fresh(1, " + f + ", 0)", apart().fresh(1, f, 0), BAD);
        }
        for (int knots = 1; knots <= 8; knots++) {
            TiedToTown x = laid(all(new int[knots]));
            int every = (1 << knots) - 1;
            due("fresh(1, all, 0) of " + knots, x.fresh(1, every, 0), NONE);
            due("fresh(1, all and one, 0) of " + knots, x.fresh(1, every + 1, 0), BAD);
            due("fresh(1, all but the last, 0) of " + knots, x.fresh(1, every >> 1, 0), 1 << (knots - 1));
            due("all of " + knots, x.fresh(knots, 0, 0), every);
            due("one more than all of " + knots, x.fresh(knots + 1, 0, 0), knots == 8 ? BAD : NONE);
            due("BAD ahead of NONE", x.fresh(8, every, 2), BAD);
            due("BAD ahead of NONE", x.fresh(9, every, 0), BAD);
        }
    }

    private static void freshStaysFree() {
        sentence(19, "of sets of m TIED KNOTS such that no KNOT of F is one of them, nor has one of them ABOVE it");
        TiedToTown x = chain();
        for (int k = 0; k < 8; k++) {
            due("a chain: fresh(1, 1 << " + k + ", 0)", x.fresh(1, 1 << k, 0), k == 0 ? NONE : 1);
            due("a chain: all under " + k, x.fresh(Math.max(1, k), 1 << k, 0), k == 0 ? NONE : (1 << k) - 1);
            due("a chain: one more", x.fresh(k + 1, 1 << k, 0), NONE);
        }
        x.undo(7);
        due("F is UNDONE", x.fresh(7, 128, 0), 127);
        due("eight of seven that are TIED", x.fresh(8, 0, 0), NONE);
        x.cut(0);
        due("nothing is TIED", x.fresh(1, 0, 0), NONE);
        TiedToTown y = laid(all(0, 0, 1, 4, 2));
        due("ABOVE 0 are 2 and 3", y.fresh(2, 1, 0), 18);
        due("its rope", y.fresh(2, 1, 1), 3);
        due("a third one", y.fresh(3, 1, 0), NONE);
        due("of 0 and 1", y.fresh(1, 3, 0), NONE);
        due("of 3 and 4", y.fresh(3, 24, 0), 7);
        TiedToTown dead = laid("p0;p0;" + knot(0, 1, 0, 99, 2) + knot(0, 1, 0, 99, 3));
        due("whoever lives, of whatever KIND", dead.fresh(2, 0, 0), 3);
    }

    private static void freshShortest() {
        sentence(19, "the rope (the highest number less the lowest one) is shortest, of several the lowest: the set; the rope; none");
        for (int f = 0; f < 256; f++) {
            TiedToTown x = apart();
            for (int m = 1; m <= 8; m++) {
                int best = searched(m, 255 & ~f);
                due("fresh(" + m + ", " + f + ", 0)", x.fresh(m, f, 0), best);
                due("fresh(" + m + ", " + f + ", 1)", x.fresh(m, f, 1), best == NONE ? NONE : length(best));
            }
        }
        TiedToTown x = apart();
        x.undo(3);
        x.undo(6);
        due("four of 0, 1, 2, 4, 5, 7", x.fresh(4, 0, 0), 23);
        due("their rope", x.fresh(4, 0, 1), 4);
        due("two of 0, 2, 5, 7", x.fresh(2, 18, 0), 5);
        due("one", x.fresh(1, 7, 0), 16);
        due("the rope of one", x.fresh(1, 7, 1), 0);
    }

    private static int searched(int m, int free) {
        int best = NONE;
        for (int set = 1; set < 256; set++) {
            boolean of = Integer.bitCount(set) == m && (set & free) == set;
            if (of && (best == NONE || length(set) < length(best))) {
                best = set;
            }
        }
        return best;
    }

    private static int length(int set) {
        return 31 - Integer.numberOfLeadingZeros(set) - Integer.numberOfTrailingZeros(set);
    }

    private static void orders() {
        sentence(20, "in how many orders the TIED KNOTS can have been tied, each behind those TIED ones that it is THROUGH");
        int factorial = 1;
        TiedToTown x = apart();
        x.cut(0);
        for (int k = 1; k < 7; k++) {
            x.undo(k);
        }
        due("one", x.orders(), 1);
        x.undo(7);
        due("none: no order can be told apart", x.orders(), 1);
        for (int knots = 1; knots <= 8; knots++) {
            factorial *= knots;
            due(knots + " apart", laid(all(new int[knots])).orders(), factorial);
        }
        due("a chain of eight", chain().orders(), 1);
        due("seven THROUGH one", laid(all(0, 1, 1, 1, 1, 1, 1, 1)).orders(), 5040);
        due("one THROUGH seven", laid(all(0, 0, 0, 0, 0, 0, 0, 127)).orders(), 5040);
        due("two chains of four", laid(all(0, 1, 2, 4, 0, 16, 32, 64)).orders(), 70);
        due("four pairs", laid(all(0, 1, 0, 4, 0, 16, 0, 64)).orders(), 2520);
        TiedToTown y = laid(all(0, 1, 1, 4));
        due("ahead of the cut", y.orders(), 3);
        y.cut(2);
        due("of what is TIED", y.orders(), 1);
        due("of the dead, SEALED", laid("p0;p0;" + knot(0, 1, 0, 9, 3) + knot(0, 1, 0, 9, 3)).orders(), 2);
    }

    private static void tell() {
        sentence(21, "A KNOT more in the told row: how many. BAD; NO: it is in it.");
        TiedToTown x = chain();
        for (int far : NO_KNOTS_OF_EIGHT) {
            due("tell(" + far + ")", x.tell(far), BAD);
        }
        due("count(4)", x.count(4), 0);
        for (int k = 0; k < 8; k++) {
            due("tell(" + k + ")", x.tell(k), k + 1);
            due("tell(" + k + ") again", x.tell(k), NO);
            due("tell(0) again", x.tell(0), NO);
            due("count(4)", x.count(4), k + 1);
        }
        due("tell(8), all are in it", x.tell(8), BAD);
        due("tell(2) of two", new TiedToTown().tell(2), BAD);
        sentence(21, "(each once, TIED or not;");
        TiedToTown y = chain();
        y.cut(4);
        due("tell(5), UNDONE", y.tell(5), 1);
        due("tell(5) again", y.tell(5), NO);
        due("tell(0), TIED", y.tell(0), 2);
        y.cut(0);
        due("tell(0) again, UNDONE since", y.tell(0), NO);
    }

    private static void noRow() {
        sentence(22, "No told row: how many it had.");
        TiedToTown x = chain();
        due("noRow() of none", x.noRow(), 0);
        for (int k = 7; k >= 0; k--) {
            x.tell(k);
        }
        due("judge()", x.judge(), 0);
        due("noRow() of eight", x.noRow(), 8);
        due("count(4)", x.count(4), 0);
        due("judge()", x.judge(), NONE);
        due("noRow() again", x.noRow(), 0);
        due("tell(7) once more", x.tell(7), 1);
        due("noRow() of one", x.noRow(), 1);
    }

    private static void rowIsEmptied() {
        sentence(22, "it is empty as soon as a new one is TIED (not by a YEAR), something TAKEN BACK, or back() is done");
        TiedToTown x = laid("p1;p1;p0;" + knot(0, 1, 0, 9, 0) + knot(0, 1, 1, 9, 1) + knot(0, 1, 0, 0, 1));
        x.wipe();
        x.tell(0);
        x.tell(1);
        due("NO back", x.back(), NO);
        due("NO takeBack", x.takeBack(), NO);
        due("NO lay", x.lay(), NO);
        due("a BAD tie", x.tie(0, 0, 0, 0, 0), BAD);
        due("a NO tie", x.tie(0, 2, 0, 0, 0), NO);
        x.undo(2);
        x.pull(1);
        x.year(3, 60, 0);
        x.cut(0);
        x.year(3, 60, 1);
        x.days(1);
        x.keep();
        x.write(1, 0);
        x.wipe();
        x.cross(0, 0);
        x.smooth(0);
        x.judge();
        due("none of these empties it", x.count(4), 2);
        due("the row stands", x.tell(0), NO);
        due("tie", x.tie(0, 1, 0, 0, 0), 3);
        due("a new one is TIED", x.count(4), 0);
        due("tell(3)", x.tell(3), 1);
        due("takeBack()", x.takeBack(), 4);
        due("something is TAKEN BACK", x.count(4), 0);
        due("tell(3), TAKEN BACK", x.tell(3), BAD);
        due("tell(2)", x.tell(2), 1);
        due("back()", x.back(), 0);
        due("back() is done", x.count(4), 0);
        TiedToTown full = chain();
        full.tell(0);
        due("a tie that is FULL", full.tie(0, 1, 0, 0, 0), FULL);
        due("count(4) after FULL", full.count(4), 1);
    }

    private static void judge() {
        sentence(23, "the first of it that is THROUGH (as told, whatever is TIED) one that comes behind it in the row; none");
        TiedToTown x = chain();
        due("no row", x.judge(), NONE);
        x.tell(7);
        due("of one", x.judge(), NONE);
        for (int last = 1; last < 8; last++) {
            x.noRow();
            for (int k = 0; k < 8; k++) {
                x.tell(k == last - 1 ? last : k == last ? last - 1 : k);
            }
            due("the last two of " + (last + 1) + " changed about", x.judge(), last - 1);
        }
        x.noRow();
        x.tell(2);
        x.tell(0);
        due("2 is THROUGH 1 alone", x.judge(), NONE);
        x.tell(1);
        due("and 1 is behind it", x.judge(), 0);
        x.cut(0);
        due("nothing is TIED", x.judge(), 0);
        TiedToTown y = laid(all(0, 0, 1, 2, 12));
        y.tell(1);
        y.tell(3);
        y.tell(2);
        due("2 ahead of 0, that is not told yet", y.judge(), NONE);
        y.tell(0);
        due("the first, and not the last", y.judge(), 2);
        y.noRow();
        y.tell(0);
        y.tell(4);
        y.tell(3);
        y.tell(2);
        y.tell(1);
        due("of several the first", y.judge(), 1);
        sentence(23, "JUDGED: its place in the row. NONE.");
        y.noRow();
        for (int k : new int[] {0, 1, 3, 2, 4}) {
            y.tell(k);
        }
        due("each behind what it is THROUGH", y.judge(), NONE);
    }
}
