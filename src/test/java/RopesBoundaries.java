import java.math.BigInteger;

/** Promises 24 to 32: a test for each sentence with a boundary, the answers taken from its words. */
public final class RopesBoundaries extends Answers {
    private static final String TWO = "p1;p1;";
    private static final int[] NO_ROPES = {-1, 2, 3, 31, 32, MIN, MAX};

    public static void main(String[] args) {
        crossNumbers();
        crossFull();
        smooth();
        loosePlaces();
        loosened();
        alikeSame();
        alikeTurned();
        alikeEnds();
        alikeNot();
        markNumbers();
        marks();
        yearNumbers();
        yearDraws();
        yearUndoes();
        yearTies();
        yearChangesNothing();
        keep();
        keptWhat();
        back();
        count();
        mustHaveAsked(24, 32);
        end();
    }

    private static TiedToTown ropes(int[] left, int[] right) {
        TiedToTown x = new TiedToTown();
        rope(x, 0, left);
        rope(x, 1, right);
        return x;
    }

    private static int[] row(int... crossings) {
        return crossings;
    }

    private static void crossNumbers() {
        sentence(24, "A crossing more of a ROPE: how many. BAD; FULL.");
        TiedToTown x = new TiedToTown();
        for (int far : NO_ROPES) {
            due("cross(" + far + ", 0)", x.cross(far, 0), BAD);
        }
        sentence(24, "of c (0 to 7): the strand c by 2, cut, over (c even) or under (odd)");
        for (int c : new int[] {-1, -2, 8, 9, 256, MIN, MAX}) {
            due("cross(0, " + c + ")", x.cross(0, c), BAD);
            due("cross(1, " + c + ")", x.cross(1, c), BAD);
        }
        for (int c = 0; c < 8; c++) {
            due("cross(0, " + c + ")", x.cross(0, c), c + 1);
            TiedToTown y = ropes(row(c), row());
            due("loose(0, 0)", y.loose(0, 0), c);
            for (int strand = 0; strand < 4; strand++) {
                due("mark of " + strand + " with " + c, y.mark(0, strand), strand != c / 2 ? 100 : c % 2 == 0 ? 101 : 99);
            }
        }
        due("the other is without", x.cross(1, 0), 1);
    }

    private static void crossFull() {
        sentence(24, "A ROPE (0 and 1) is a row of crossings (16 at most)");
        for (int rope = 0; rope < 2; rope++) {
            for (int other : new int[] {0, 1, 2}) {
                TiedToTown x = new TiedToTown();
                for (int i = 1; i <= 16; i++) {
                    due("cross", x.cross(rope, i % 2 * other), i);
                }
                due("a seventeenth", x.cross(rope, 0), FULL);
                due("a seventeenth", x.cross(rope, 7), FULL);
                due("BAD ahead of FULL", x.cross(rope, 8), BAD);
                due("BAD ahead of FULL", x.cross(rope, -1), BAD);
                due("LOOSENED", x.loose(rope, -1), other == 1 ? 0 : 16);
                due("the other one has room", x.cross(1 - rope, 3), 1);
                due("smooth", x.smooth(rope), 16);
                due("there is room", x.cross(rope, 3), 1);
            }
        }
    }

    private static void smooth() {
        sentence(25, "A ROPE without crossings: how many it had. BAD.");
        TiedToTown x = ropes(row(0, 1, 2), row(4));
        for (int far : NO_ROPES) {
            due("smooth(" + far + ")", x.smooth(far), BAD);
        }
        due("smooth(0), what is taken out counts", x.smooth(0), 3);
        due("smooth(0) of none", x.smooth(0), 0);
        due("loose(0, -1)", x.loose(0, -1), 0);
        due("mark(0, 1)", x.mark(0, 1), 100);
        due("loose(1, -1)", x.loose(1, -1), 1);
        due("smooth(1)", x.smooth(1), 1);
        due("smooth(1) of none", x.smooth(1), 0);
        due("nothing of it is ahead", x.cross(0, 3), 1);
        due("loose(0, 0)", x.loose(0, 0), 3);
        due("nothing of it is behind", x.loose(0, 1), NONE);
    }

    private static void loosePlaces() {
        sentence(26, "LOOSENED: how many crossings (i = -1), the i-th. NONE; BAD (i below -1).");
        TiedToTown x = new TiedToTown();
        for (int rope = 0; rope < 2; rope++) {
            due("loose(" + rope + ", -1) of none", x.loose(rope, -1), 0);
            due("loose(" + rope + ", 0) of none", x.loose(rope, 0), NONE);
            for (int i : new int[] {-2, -3, MIN, MIN + 1}) {
                due("loose(" + rope + ", " + i + ")", x.loose(rope, i), BAD);
            }
        }
        for (int far : NO_ROPES) {
            due("loose(" + far + ", -1)", x.loose(far, -1), BAD);
            due("loose(" + far + ", 0)", x.loose(far, 0), BAD);
            due("loose(" + far + ", 99)", x.loose(far, 99), BAD);
        }
        for (int i = 0; i < 16; i++) {
            x.cross(1, i % 4 * 2);
            due("loose(1, -1)", x.loose(1, -1), i + 1);
            due("the last one", x.loose(1, i), i % 4 * 2);
            due("one behind it", x.loose(1, i + 1), NONE);
        }
        due("the first one of sixteen", x.loose(1, 0), 0);
        for (int i : new int[] {16, 17, 32, MAX}) {
            due("loose(1, " + i + ")", x.loose(1, i), NONE);
        }
    }

    private static void isLoosened(int[] told, int... left) {
        TiedToTown x = ropes(told, row());
        due("loose(0, -1)", x.loose(0, -1), left.length);
        for (int i = 0; i < left.length; i++) {
            due("loose(0, " + i + ")", x.loose(0, i), left[i]);
        }
        due("loose(0, " + left.length + ")", x.loose(0, left.length), NONE);
        due("told still", x.smooth(0), told.length);
    }

    private static void loosened() {
        sentence(26, "LOOSENED all two side by side of one strand, one over, one under, are taken out, again and again.");
        for (int c = 0; c < 8; c++) {
            for (int d = 0; d < 8; d++) {
                boolean out = c / 2 == d / 2 && c != d;
                isLoosened(row(c, d), out ? row() : row(c, d));
                isLoosened(row(6, c, d), out ? row(6) : c == 7 ? row(d) : row(6, c, d));
            }
        }
        isLoosened(row(0, 1, 0), 0);
        isLoosened(row(1, 0, 1), 1);
        isLoosened(row(0, 2, 1), 0, 2, 1);
        isLoosened(row(0, 2, 3, 1));
        isLoosened(row(0, 2, 3, 1, 4), 4);
        isLoosened(row(4, 0, 2, 3, 1), 4);
        isLoosened(row(0, 2, 4, 6, 0, 2, 4, 6, 7, 5, 3, 1, 7, 5, 3, 1));
        isLoosened(row(0, 2, 4, 6, 0, 2, 4, 6, 7, 5, 3, 1, 7, 5, 3, 3), 0, 3);
        isLoosened(row(1, 1, 1, 1, 1, 1, 1, 1, 0, 0, 0, 0, 0, 0, 0, 0));
        isLoosened(row(0, 1, 0, 1, 0, 1, 0, 1, 0, 1, 0, 1, 0, 1, 0, 1));
        isLoosened(row(0, 0, 0, 0, 0, 0, 0, 0, 0, 0, 0, 0, 0, 0, 0, 1), 0, 0, 0, 0, 0, 0, 0, 0, 0, 0, 0, 0, 0, 0);
        isLoosened(row(1, 2, 5, 6), 1, 2, 5, 6);
    }

    private static void isAlike(int want, int[] left, int... right) {
        due("alike()", ropes(left, right).alike(), want);
        due("alike(), the ropes changed about", ropes(right, left).alike(), want);
    }

    private static void alikeSame() {
        sentence(27, "2, if LOOSENED they are the same");
        isAlike(2, row());
        isAlike(2, row(), 0, 1);
        isAlike(2, row(0, 1), 2, 4, 5, 3);
        isAlike(2, row(0, 2), 0, 2);
        isAlike(2, row(0, 2, 1), 0, 2, 1);
        isAlike(2, row(0, 6, 7, 2), 0, 2);
        isAlike(2, row(0, 0, 0), 0, 0, 0);
        isAlike(2, row(0, 2, 4, 6, 0, 2, 4, 6, 0, 2, 4, 6, 0, 2, 4, 6), 0, 2, 4, 6, 0, 2, 4, 6, 0, 2, 4, 6, 0, 2, 4, 6);
    }

    private static void alikeTurned() {
        sentence(27, "one is turned round in itself (some of its first crossings put behind the others)");
        isAlike(1, row(0, 2), 2, 0);
        isAlike(1, row(0, 2, 4), 2, 4, 0);
        isAlike(1, row(0, 2, 4), 4, 0, 2);
        isAlike(0, row(0, 2, 4), 4, 2, 0);
        isAlike(0, row(0, 2, 4), 0, 4, 2);
        int[] long16 = row(0, 0, 2, 2, 4, 4, 6, 6, 0, 2, 4, 6, 0, 4, 2, 6);
        for (int turn = 0; turn < 16; turn++) {
            int[] turned = new int[16];
            for (int i = 0; i < 16; i++) {
                turned[i] = long16[(i + turn) % 16];
            }
            isAlike(turn == 0 ? 2 : 1, long16, turned);
            int last = turned[15];
            turned[15] = last == 6 ? 4 : 6;
            isAlike(0, long16, turned);
        }
    }

    private static void alikeEnds() {
        sentence(27, "the first and the last crossing are taken out, as long as they are of one strand, one over, one under");
        for (int c = 0; c < 8; c++) {
            int d = c ^ 1;
            int e = (c + 2) % 8;
            int f = (c + 4) % 8;
            isAlike(1, row(c, e, d), e);
            isAlike(1, row(c, e, f, d), f, e);
            isAlike(1, row(c, c, e, d, d), e);
            isAlike(1, row(c, e, f, e ^ 1, d), f);
            isAlike(1, row(c, e, f, e ^ 1, d), e, f, e ^ 1);
            isAlike(1, row(c, e, f, e ^ 1, d), d, e, f, e ^ 1, c);
            isAlike(0, row(c, e, c), e);
            isAlike(0, row(c, e, d), d);
            isAlike(0, row(c, e, d), e ^ 1);
            isAlike(0, row(c, e, d), e, e);
        }
        isAlike(1, row(0, 2, 4, 6, 0, 2, 4, 6, 6, 5, 3, 1, 7, 5, 3, 1), 6, 6);
        isAlike(1, row(0, 2, 4, 6, 0, 2, 4, 2, 6, 5, 3, 1, 7, 5, 3, 1), 6, 2);
        isAlike(1, row(0, 2, 4, 6, 0, 2, 4, 2, 6, 5, 3, 1, 7, 5, 3, 1), 1, 3, 5, 6, 2, 4, 2, 0);
    }

    private static void alikeNot() {
        sentence(27, "ALIKE: 2, 1, 0.");
        isAlike(0, row(), 0);
        isAlike(0, row(), 0, 2, 1);
        isAlike(0, row(0), 1);
        isAlike(0, row(0), 2);
        isAlike(0, row(0), 0, 0);
        isAlike(0, row(0, 2), 0, 2, 0, 2);
        isAlike(0, row(0, 0), 1, 1);
        isAlike(0, row(0, 2), 3, 1);
        isAlike(0, row(0, 2, 1, 3));
        isAlike(1, row(0, 2, 1, 3), 2, 1, 3, 0);
        isAlike(0, row(0, 2, 1, 3), 2, 0, 3, 1);
    }

    private static void markNumbers() {
        sentence(28, "MARK of a strand (0 to 3) and 100. BAD.");
        TiedToTown x = new TiedToTown();
        for (int strand = 0; strand < 4; strand++) {
            due("mark(0, " + strand + ") of none", x.mark(0, strand), 100);
            due("mark(1, " + strand + ") of none", x.mark(1, strand), 100);
        }
        for (int strand : new int[] {-1, 4, 5, 7, MIN, MAX}) {
            due("mark(0, " + strand + ")", x.mark(0, strand), BAD);
            due("mark(1, " + strand + ")", x.mark(1, strand), BAD);
        }
        for (int far : NO_ROPES) {
            due("mark(" + far + ", 0)", x.mark(far, 0), BAD);
        }
    }

    private static void marks() {
        sentence(28, "MARK of a strand: how many of it are over less how many are under.");
        for (int strand = 0; strand < 4; strand++) {
            for (int over = 0; over <= 16; over++) {
                TiedToTown x = new TiedToTown();
                for (int i = 0; i < 16; i++) {
                    x.cross(0, 2 * strand + (i < over ? 0 : 1));
                }
                due("mark with " + over + " of 16 over", x.mark(0, strand), 100 + over - (16 - over));
                due("mark of another", x.mark(0, 3 - strand), 100);
                due("mark of the other ROPE", x.mark(1, strand), 100);
            }
        }
        TiedToTown y = ropes(row(0, 2, 1, 0, 5, 3, 3), row(1, 7, 7));
        int[] left = {101, 99, 99, 100};
        int[] right = {99, 100, 100, 98};
        for (int strand = 0; strand < 4; strand++) {
            due("mark(0, " + strand + ")", y.mark(0, strand), left[strand]);
            due("mark(1, " + strand + ")", y.mark(1, strand), right[strand]);
        }
    }

    private static void yearNumbers() {
        sentence(29, "A YEAR by z (0 to 9999) of n (1 to 60) days");
        TiedToTown x = new TiedToTown();
        for (int what = 0; what <= 1; what++) {
            for (int z : new int[] {-1, 10000, 10001, MIN, MAX}) {
                due("year(" + z + ", 1, " + what + ")", x.year(z, 1, what), BAD);
            }
            for (int n : new int[] {0, -1, 61, 62, MIN, MAX}) {
                due("year(0, " + n + ", " + what + ")", x.year(0, n, what), BAD);
            }
        }
        for (int what : new int[] {-1, 2, 3, MIN, MAX}) {
            due("year(0, 1, " + what + ")", x.year(0, 1, what), BAD);
        }
    }

    /** Eight apart are undone and tied by turns: only the draws tell. */
    private static void yearDraws() {
        sentence(29, "q being ((x times x) modulo 65521) modulo how many KNOTS there are, x 7919 z, 6151 t and 1 together");
        for (int knots = 1; knots <= 8; knots++) {
            StringBuilder s = new StringBuilder(TWO);
            for (int k = 0; k < knots; k++) {
                s.append(knot(0, 1, 0, 0, 0));
            }
            for (int undone = 0; undone < 2; undone++) {
                TiedToTown x = laid(s.toString());
                if (undone == 1) {
                    x.undo(0);
                }
                for (int z : new int[] {0, 1, 2, 7, 500, 5000, 9998, 9999}) {
                    draws(x, knots, (1 << knots) - 1 - undone, z);
                }
            }
        }
    }

    private static void draws(TiedToTown x, int knots, int tied, int z) {
        int now = tied;
        for (int t = 0; t < 60; t++) {
            long sum = 7919L * z + 6151L * t + 1;
            BigInteger square = BigInteger.valueOf(sum).pow(2);
            now ^= 1 << square.mod(BigInteger.valueOf(65521)).mod(BigInteger.valueOf(knots)).intValueExact();
            if (t < 4 || t > 57) {
                due("year(" + z + ", " + (t + 1) + ", 0)", x.year(z, t + 1, 0), now);
                due("year(" + z + ", " + (t + 1) + ", 1)", x.year(z, t + 1, 1), t + 1);
            }
        }
    }

    private static void yearUndoes() {
        sentence(29, "if it is TIED, it is undone, if it MAY be (today)");
        TiedToTown x = laid(TWO + knot(0, 1, 0, 1, 2));
        due("TIGHT, due tomorrow, sixty days", x.year(5, 60, 1), 0);
        due("TIED still", x.year(5, 60, 0), 1);
        x.days(1);
        due("due today", x.year(5, 1, 1), 1);
        due("undone", x.year(5, 1, 0), 0);
        due("undone and tied by turns", x.year(5, 60, 1), 60);
        TiedToTown y = laid(TWO + knot(0, 1, 0, 99, 2));
        y.days(98);
        due("due on 99, today 98", y.year(9999, 60, 1), 0);
        due("of one who is dead", laid("p1;p0;" + knot(0, 1, 0, 0, 0)).year(1, 60, 1), 0);
        due("two SEALED ones", laid(TWO + knot(0, 1, 0, 0, 3) + knot(0, 1, 0, 0, 3)).year(1, 60, 1), 0);
        due("one SEALED one", laid(TWO + knot(0, 1, 0, 0, 3)).year(1, 60, 1), 60);
        TiedToTown under = laid("p1;p1;p0;" + knot(0, 1, 0, 0, 0) + knot(1, 2, 1, 0, 0));
        due("one that is under one of the dead", under.year(1, 60, 1), 0);
    }

    private static void yearTies() {
        sentence(29, "else it is TIED again, if both its PERSONS are alive and all that it is THROUGH are TIED");
        for (int law = 0; law <= 2; law++) {
            for (int lives = 0; lives < 4; lives++) {
                TiedToTown x = laid(people(lives & 1, lives >> 1) + "l" + law + ";" + knot(0, 1, 0, 0, 0));
                x.cut(0);
                due("law " + law + ", lives " + lives, x.year(2, 60, 1), lives == 3 ? 60 : 0);
                due("law " + law + ", lives " + lives, x.year(2, 59, 0), lives == 3 ? 1 : 0);
            }
        }
        TiedToTown one = laid("p1;p0;l1;" + knot(0, 1, 0, 0, 0));
        due("by ONE: undone once", one.year(2, 60, 1), 1);
        due("by ONE: TIED no more", one.year(2, 60, 0), 0);
        TiedToTown through = laid("p1;p1;p0;" + knot(0, 2, 0, 0, 0) + knot(0, 1, 1, 0, 0));
        through.cut(0);
        due("THROUGH what can not be TIED again", through.year(2, 60, 1), 0);
        TiedToTown half = laid("p1;p1;p0;" + knot(0, 2, 0, 0, 0) + knot(0, 1, 0, 0, 0) + knot(0, 1, 3, 0, 0));
        half.cut(0);
        half.cut(1);
        due("THROUGH two, one of which can be TIED again", half.year(2, 60, 0) & 5, 0);
        TiedToTown kinds = laid(TWO + knot(0, 1, 0, 99, 2) + knot(0, 1, 0, 99, 2) + knot(0, 1, 0, 99, 2));
        for (int k = 0; k < 3; k++) {
            kinds.cut(k);
        }
        due("TIGHT ones ahead of their day are TIED again, once", kinds.year(4, 60, 1), 3);
        due("TIED then", kinds.year(4, 60, 0), 7);
    }

    private static void yearChangesNothing() {
        sentence(29, "from now on, without these going by else");
        TiedToTown x = busy();
        for (int z = 0; z < 20; z++) {
            due("how often", x.year(z, 60, 1), x.year(z, 60, 1));
            due("which are TIED then", x.year(z, 60, 0), x.year(z, 60, 0));
        }
        counts("as it was: ", x, 3, 2, 2, 2, 1, 1, 1, 0, 0);
        sameWhole("after YEARS: ", x, busy());
    }

    private static TiedToTown busy() {
        TiedToTown x = new TiedToTown();
        x.days(2);
        x.tell(1);
        x.keep();
        return x;
    }

    private static void keep() {
        sentence(30, "KEPT: how many. FULL.");
        TiedToTown x = new TiedToTown();
        due("keep()", x.keep(), 1);
        due("keep() of a second", x.keep(), 2);
        due("keep() of a third", x.keep(), FULL);
        due("count(6)", x.count(6), 2);
        due("back()", x.back(), 1);
        due("keep()", x.keep(), 2);
        due("keep() of a third", x.keep(), FULL);
        due("back()", x.back(), 1);
        due("back()", x.back(), 0);
        due("back() of none", x.back(), NO);
        due("keep()", x.keep(), 1);
        sentence(30, "2 at most");
        TiedToTown y = new TiedToTown();
        y.days(1);
        y.keep();
        y.days(1);
        y.keep();
        y.days(1);
        due("keep() of a third", y.keep(), FULL);
        due("back()", y.back(), 1);
        due("nothing of the third is KEPT", y.count(3), 2);
        due("back()", y.back(), 0);
        due("the first", y.count(3), 1);
    }

    private static void keptWhat() {
        sentence(30, "KEPT is all but THE TEXT, the told row and ROPES: 2 at most.");
        TiedToTown x = laid("p1;p0;p1;l1;" + knot(0, 1, 0, 3, 1) + knot(0, 2, 1, 4, 2));
        x.days(7);
        x.undo(1);
        x.tell(1);
        rope(x, 0, 2, 4);
        due("keep()", x.keep(), 1);
        due("count(4), the row stands", x.count(4), 1);
        due("count(5), what can be TAKEN BACK stands", x.count(5), 2);
        due("loose(0, -1)", x.loose(0, -1), 2);
        due("takeBack() behind keep", x.takeBack(), 1);
        x.days(5);
        x.tie(2, 0, 3, 77, 3);
        x.cut(0);
        x.tell(0);
        rope(x, 0, 6);
        rope(x, 1, 7);
        put(x, "zz");
        int size = x.count(7);
        due("back()", x.back(), 0);
        counts("back: ", x, 3, 2, 1, 7, 0, 0, 0, size, 1);
        knotIs("back: ", x, 0, 0, 1, 0, 3, 1, 1, 0);
        knotIs("back: ", x, 1, 0, 2, 1, 4, 2, 0, 0);
        due("knot(2, 0), TIED since", x.knot(2, 0), BAD);
        due("PERSON 1", x.person(1, 0), 0);
        due("THE TEXT is as it is", x.fault(), size - 2);
        due("the ROPES are as they are", x.loose(0, 0), 6);
        due("the ROPES are as they are", x.loose(1, 0), 7);
    }

    private static void back() {
        sentence(31, "As KEPT last (it is KEPT no more then): how many are left; nothing is TAKEN BACK then. NO.");
        TiedToTown x = new TiedToTown();
        due("back() of none", x.back(), NO);
        x.keep();
        x.undo(1);
        x.keep();
        x.undo(0);
        x.tie(0, 2, 0, 8, 1);
        due("back()", x.back(), 1);
        due("count(1)", x.count(1), 2);
        due("count(2)", x.count(2), 1);
        due("count(5)", x.count(5), 0);
        due("takeBack()", x.takeBack(), NO);
        due("count(6)", x.count(6), 1);
        x.days(1);
        due("count(5), since back()", x.count(5), 1);
        due("back()", x.back(), 0);
        due("count(2)", x.count(2), 2);
        due("count(3)", x.count(3), 0);
        due("takeBack()", x.takeBack(), NO);
        due("back() of none", x.back(), NO);
        x.days(3);
        due("back() of none, NO", x.back(), NO);
        due("nothing changes then", x.takeBack(), 0);
        TiedToTown y = new TiedToTown();
        y.tie(0, 1, 3, 5, 1);
        y.keep();
        y.takeBack();
        y.tie(1, 2, 0, 6, 2);
        due("back()", y.back(), 0);
        knotIs("as it was KEPT: ", y, 2, 0, 1, 3, 5, 1, 1, 0);
    }

    private static void count() {
        sentence(32, "0 PERSONS, 1 KNOTS, 2 that are TIED, 3 the day, 4 of the told row, 5 that can be TAKEN BACK, 6 KEPT,"
            + " 7 bytes of THE TEXT, 8 the LAW. BAD.");
        TiedToTown x = new TiedToTown();
        for (int what : new int[] {-1, 9, 10, 31, 32, MIN, MAX}) {
            due("count(" + what + ")", x.count(what), BAD);
        }
        counts("at first: ", x, 3, 2, 2, 0, 0, 0, 0, 0, 0);
        String text = "p1;p0;p1;p1;p1;p1;l2;" + "k0,2,0,0,1;".repeat(8);
        TiedToTown y = laid(text);
        put(y, "l0;".repeat(63) + "x;");
        y.days(91);
        for (int i = 0; i < 8; i++) {
            y.days(1);
        }
        for (int k = 0; k < 8; k++) {
            y.tell(k);
        }
        y.keep();
        y.keep();
        counts("at most: ", y, 6, 8, 8, 99, 8, 8, 2, 300, 2);
        for (int k = 0; k < 8; k++) {
            y.pull(k);
        }
        y.wipe();
        y.noRow();
        counts("all UNDONE: ", y, 6, 8, 0, 99, 0, 8, 2, 0, 2);
    }
}
