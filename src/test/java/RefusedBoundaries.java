/** A call that is refused, or that only asks, leaves all as it was: held against a twin that had no such call. */
public final class RefusedBoundaries extends Answers {
    private interface Call {
        int on(TiedToTown x);
    }

    private interface Made {
        TiedToTown anew();
    }

    public static void main(String[] args) {
        sentence(0, "BAD: a number is none that is told (PERSONS, KNOTS: such as there are; sets of KNOTS of these, 0, too)");
        badInTowns();
        badInKnots();
        badInWhatHasToBe();
        badInRopes();
        sentence(0, "NO: not as things stand. NONE: there is none. FULL.");
        notAsThingsStand();
        noneOrFull();
        sentence(0, "Of several the first in this order; nothing changes then.");
        firstInOrder();
        sentence(0, "Nothing is promised beyond the answers and state changes described above");
        asking();
        end();
    }

    /** Something of all that a call can change; the last knot is UNDONE, the second person of it dead. */
    private static TiedToTown busy() {
        TiedToTown x = put(new TiedToTown(), "p1;p1;p0;l1;" + knot(0, 1, 0, 5, 1) + knot(1, 2, 1, 9, 0) + knot(0, 2, 0, 7, 2));
        x.lay();
        x.keep();
        x.days(3);
        x.cut(2);
        x.tell(1);
        x.tell(0);
        rope(x, 0, 1, 2, 2, 3);
        rope(x, 1, 5);
        return x;
    }

    /** All that has a most is at it. */
    private static TiedToTown full() {
        TiedToTown x = put(new TiedToTown(), "p1;p1;p1;p1;p1;p0;" + knot(0, 1, 0, 5, 1).repeat(7) + knot(0, 5, 127, 9, 0));
        x.lay();
        put(x, "l0;".repeat(63) + "l00");
        x.keep();
        x.days(90);
        for (int i = 0; i < 8; i++) {
            x.days(1);
        }
        x.days(1);
        x.keep();
        for (int k = 0; k < 8; k++) {
            x.tell(7 - k);
        }
        for (int i = 0; i < 16; i++) {
            x.cross(0, i % 8);
            x.cross(1, 4);
        }
        return x;
    }

    private static void leaves(String name, Made town, Call call, int want) {
        TiedToTown x = town.anew();
        due(name, call.on(x), want);
        sameWhole(name + " changed: ", x, town.anew());
    }

    private static void bad(String name, Call call) {
        leaves(name + " of a busy one", RefusedBoundaries::busy, call, BAD);
        leaves(name + " of a full one", RefusedBoundaries::full, call, BAD);
        leaves(name + " of a new one", TiedToTown::new, call, BAD);
    }

    private static void no(String name, Call call) {
        leaves(name + " of a busy one", RefusedBoundaries::busy, call, NO);
    }

    private static void badInTowns() {
        for (int far : new int[] {-1, 8, MIN, MAX}) {
            bad("knot(" + far + ", 0)", x -> x.knot(far, 0));
            bad("person(" + far + ", 0)", x -> x.person(far, 0));
            bad("knot(0, " + far + ")", x -> x.knot(0, far));
            bad("person(0, " + far + ")", x -> x.person(0, far));
        }
        for (int n : new int[] {0, 9, MIN, MAX}) {
            bad("write(" + n + ", 0)", x -> x.write(n, 0));
        }
    }

    private static void badInKnots() {
        for (int far : new int[] {-1, 8, MIN, MAX}) {
            bad("may(" + far + ")", x -> x.may(far));
            bad("undo(" + far + ")", x -> x.undo(far));
            bad("pull(" + far + ")", x -> x.pull(far));
            bad("cut(" + far + ")", x -> x.cut(far));
            bad("tie(" + far + ", ..)", x -> x.tie(far, 1, 0, 0, 0));
            bad("tie(.., " + far + ", ..)", x -> x.tie(1, far, 0, 0, 0));
            bad("tie of KIND " + far, x -> x.tie(0, 1, 0, 0, far));
        }
        for (int far : new int[] {-1, 100, MIN, MAX}) {
            bad("tie due on " + far, x -> x.tie(0, 1, 0, far, 0));
        }
        for (int far : new int[] {-1, 256, MIN, MAX}) {
            bad("tie THROUGH " + far, x -> x.tie(0, 1, far, 0, 0));
        }
        bad("tie of one", x -> x.tie(1, 1, 0, 0, 0));
        for (int n : new int[] {0, -1, 100, MIN, MAX}) {
            bad("days(" + n + ")", x -> x.days(n));
        }
    }

    private static void badInWhatHasToBe() {
        for (int far : new int[] {-1, 8, MIN, MAX}) {
            bad("loosen(" + far + ")", x -> x.loosen(far));
            bad("frees(" + far + ")", x -> x.frees(far));
            bad("tell(" + far + ")", x -> x.tell(far));
            bad("fresh(1, 0, " + far + ")", x -> x.fresh(1, 0, far));
        }
        for (int i : new int[] {-2, MIN}) {
            bad("pay(" + i + ")", x -> x.pay(i));
        }
        for (int m : new int[] {0, 9, MIN, MAX}) {
            bad("fresh(" + m + ", 0, 0)", x -> x.fresh(m, 0, 0));
        }
        for (int f : new int[] {-1, 256, MIN, MAX}) {
            bad("fresh(1, " + f + ", 0)", x -> x.fresh(1, f, 0));
        }
    }

    private static void badInRopes() {
        for (int far : new int[] {-1, 2, MIN, MAX}) {
            bad("cross(" + far + ", 0)", x -> x.cross(far, 0));
            bad("smooth(" + far + ")", x -> x.smooth(far));
            bad("loose(" + far + ", 0)", x -> x.loose(far, 0));
            bad("mark(" + far + ", 0)", x -> x.mark(far, 0));
            bad("year(1, 1, " + far + ")", x -> x.year(1, 1, far));
        }
        for (int far : new int[] {-1, 8, MIN, MAX}) {
            bad("cross(1, " + far + ")", x -> x.cross(1, far));
        }
        for (int far : new int[] {-1, 4, MIN, MAX}) {
            bad("mark(1, " + far + ")", x -> x.mark(1, far));
        }
        for (int far : new int[] {-2, MIN}) {
            bad("loose(1, " + far + ")", x -> x.loose(1, far));
        }
        for (int far : new int[] {-1, 10000, MIN, MAX}) {
            bad("year(" + far + ", 1, 0)", x -> x.year(far, 1, 0));
        }
        for (int far : new int[] {0, 61, MIN, MAX}) {
            bad("year(1, " + far + ", 0)", x -> x.year(1, far, 0));
        }
        for (int far : new int[] {-1, 9, MIN, MAX}) {
            bad("count(" + far + ")", x -> x.count(far));
        }
    }

    private static void notAsThingsStand() {
        leaves("lay() with a FAULT", () -> put(busy(), "x"), x -> x.lay(), NO);
        no("undo(0), under one", x -> x.undo(0));
        no("undo(2), UNDONE", x -> x.undo(2));
        no("tie with the dead", x -> x.tie(0, 2, 0, 0, 0));
        no("tie THROUGH one that is UNDONE", x -> x.tie(0, 1, 5, 0, 0));
        no("pull(0), under a PLAIN one", x -> x.pull(0));
        no("pull(1), PLAIN", x -> x.pull(1));
        no("pull(2), UNDONE", x -> x.pull(2));
        no("cut(2), UNDONE", x -> x.cut(2));
        no("days(97) on day 3", x -> x.days(97));
        no("days(99) on day 3", x -> x.days(99));
        no("loosen(2), UNDONE", x -> x.loosen(2));
        no("tell(1) again", x -> x.tell(1));
        leaves("days(1) on day 99", RefusedBoundaries::full, x -> x.days(1), NO);
        leaves("tell(0) of eight", RefusedBoundaries::full, x -> x.tell(0), NO);
        leaves("lay() of a cut ITEM", RefusedBoundaries::full, x -> x.lay(), NO);
        leaves("lay() of nothing", TiedToTown::new, x -> x.lay(), NO);
        leaves("takeBack() of nothing", TiedToTown::new, x -> x.takeBack(), NO);
        leaves("back() of nothing", TiedToTown::new, x -> x.back(), NO);
    }

    private static void noneOrFull() {
        leaves("write(1, 0) at 300", RefusedBoundaries::full, x -> x.write(1, 0), FULL);
        leaves("write(8, 0) at 300", RefusedBoundaries::full, x -> x.write(8, 0), FULL);
        leaves("tie of a ninth", RefusedBoundaries::full, x -> x.tie(0, 1, 0, 0, 0), FULL);
        leaves("cross(0, 0) of a seventeenth", RefusedBoundaries::full, x -> x.cross(0, 0), FULL);
        leaves("cross(1, 5) of a seventeenth", RefusedBoundaries::full, x -> x.cross(1, 5), FULL);
        leaves("keep() of a third", RefusedBoundaries::full, x -> x.keep(), FULL);
        leaves("pay(-1), one is dead", RefusedBoundaries::full, x -> x.pay(-1), NONE);
        leaves("loosen(0), one is dead", RefusedBoundaries::full, x -> x.loosen(0), NONE);
        leaves("fresh(8, 1, 0)", RefusedBoundaries::full, x -> x.fresh(8, 1, 0), NONE);
        leaves("fault() of none", TiedToTown::new, x -> x.fault(), NONE);
        leaves("judge() of none", TiedToTown::new, x -> x.judge(), NONE);
        leaves("loose(0, 0) of none", TiedToTown::new, x -> x.loose(0, 0), NONE);
        leaves("pay(0) of none", TiedToTown::new, x -> x.pay(0), NONE);
        leaves("loose(0, 2)", RefusedBoundaries::busy, x -> x.loose(0, 2), NONE);
    }

    private static void firstInOrder() {
        leaves("write: BAD ahead of FULL", RefusedBoundaries::full, x -> x.write(9, 0), BAD);
        leaves("tie: BAD ahead of NO and FULL", RefusedBoundaries::full, x -> x.tie(0, 5, 256, 0, 0), BAD);
        leaves("tie: NO ahead of FULL", RefusedBoundaries::full, x -> x.tie(0, 5, 0, 0, 0), NO);
        leaves("cross: BAD ahead of FULL", RefusedBoundaries::full, x -> x.cross(0, 8), BAD);
        leaves("days: BAD ahead of NO", RefusedBoundaries::full, x -> x.days(100), BAD);
        leaves("loosen: BAD ahead of all", RefusedBoundaries::full, x -> x.loosen(8), BAD);
        leaves("loosen: NO ahead of NONE", RefusedBoundaries::busy, x -> x.loosen(2), NO);
        leaves("pay: BAD ahead of NONE", RefusedBoundaries::full, x -> x.pay(-2), BAD);
        leaves("fresh: BAD ahead of NONE", RefusedBoundaries::full, x -> x.fresh(8, 1, 2), BAD);
        leaves("loose: BAD ahead of NONE", RefusedBoundaries::full, x -> x.loose(2, 99), BAD);
        leaves("tell: BAD ahead of NO", RefusedBoundaries::full, x -> x.tell(8), BAD);
    }

    private static void asks(String name, Call call, int want) {
        leaves(name + " of a busy one", RefusedBoundaries::busy, call, want);
    }

    private static void asking() {
        asks("fault()", x -> x.fault(), NONE);
        asks("knot(0, 3)", x -> x.knot(0, 3), 5);
        asks("knot(0, 6)", x -> x.knot(0, 6), 2);
        asks("person(2, 0)", x -> x.person(2, 0), 0);
        asks("may(1)", x -> x.may(1), 1);
        asks("loosen(0)", x -> x.loosen(0), 2);
        asks("pay(-1)", x -> x.pay(-1), 0);
        asks("forEver()", x -> x.forEver(), 0);
        asks("frees(2)", x -> x.frees(2), 0);
        asks("fresh(1, 2, 0)", x -> x.fresh(1, 2, 0), 1);
        asks("fresh(2, 0, 1)", x -> x.fresh(2, 0, 1), 1);
        asks("orders()", x -> x.orders(), 1);
        asks("judge()", x -> x.judge(), 0);
        asks("loose(0, 0)", x -> x.loose(0, 0), 1);
        asks("alike()", x -> x.alike(), 0);
        asks("mark(0, 1)", x -> x.mark(0, 1), 101);
        asks("count(5)", x -> x.count(5), 2);
        leaves("year(1, 60, 0)", RefusedBoundaries::busy, x -> x.year(1, 60, 0), busy().year(1, 60, 0));
        leaves("year(9999, 60, 1)", RefusedBoundaries::full, x -> x.year(9999, 60, 1), full().year(9999, 60, 1));
    }
}
