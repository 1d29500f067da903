import java.lang.reflect.Field;
import java.lang.reflect.Method;
import java.lang.reflect.Modifier;
import java.nio.charset.StandardCharsets;
import java.nio.file.Files;
import java.nio.file.Path;
import java.util.ArrayList;
import java.util.List;
import java.util.TreeSet;
import java.util.regex.Matcher;
import java.util.regex.Pattern;

/**
 * The document from its first word to its last, none left out: next(..) takes the words that come next in it,
 * and what they say is asked behind them; over(..) passes words that ask for nothing. Run from the project's root.
 */
public final class DocumentTests extends Answers {
    private static final String TWO = "p1;p1;";
    private static final String THREE = "p1;p1;p1;";

    private static int place = 0;

    public static void main(String[] args) throws Exception {
        over("# TiedToTown");
        whatItIs();
        face();
        text();
        undone();
        doing();
        due();
        fresh();
        rows();
        ropes();
        years();
        answers();
        order();
        promisesOfTowns();
        promisesOfKnots();
        promisesOfWhatHasToBe();
        promisesOfRopes();
        notPromised();
        mustHaveAsked(0, 32);
        end();
    }

    private static void over(String words) {
        String told = plain(words);
        int at = document().indexOf(told, place);
        String between = document().substring(place, Math.max(place, at));
        if (at < 0 || isWords(between)) {
            fail("the document goes on otherwise ahead of: " + told);
        }
        place = at < 0 ? place : at + told.length();
    }

    private static boolean isWords(String told) {
        return told.matches(".*[A-Za-z0-9].*");
    }

    private static void next(int promise, String words) {
        over(words);
        sentence(promise, words);
    }

    private static void promise(int number, String title, String head) {
        over("## Promise " + number + ": " + title);
        over("`" + head + "`:");
    }

    /** How many, then what stands at the places 0, 1, .. */
    private static void payIs(TiedToTown x, int many, int... turn) {
        due("pay(-1)", x.pay(-1), many);
        for (int i = 0; i < turn.length; i++) {
            due("pay(" + i + ")", x.pay(i), turn[i]);
        }
    }

    private static void looseIs(TiedToTown x, int rope, int... crossings) {
        due("loose(" + rope + ", -1)", x.loose(rope, -1), crossings.length);
        for (int i = 0; i < crossings.length; i++) {
            due("loose(" + rope + ", " + i + ")", x.loose(rope, i), crossings[i]);
        }
        due("loose behind the last", x.loose(rope, crossings.length), NONE);
    }

    private static void yearIs(String when, TiedToTown x, int[] tied, int[] often) {
        for (int n = 1; n <= tied.length; n++) {
            due(when + ": year(0, " + n + ", 0)", x.year(0, n, 0), tied[n - 1]);
            due(when + ": year(0, " + n + ", 1)", x.year(0, n, 1), often[n - 1]);
        }
    }

    // ---- What it is

    private static void whatItIs() {
        over("## What it is");
        next(0, "Tied to the town: promises are knots, tied by two in one rope, through older knots");
        TiedToTown x = new TiedToTown();
        knotIs("", x, 1, 1, 2, 1);
        due("tie by two through an older one", x.tie(0, 1, 2, 9, 0), 2);
        due("tie through one that is not there yet", x.tie(0, 1, 8, 9, 0), BAD);
        due("tie by one", x.tie(1, 1, 2, 9, 0), BAD);
        next(0, "undone by both when nothing goes through them any more");
        TiedToTown y = new TiedToTown();
        due("undo(0), something goes through it", y.undo(0), NO);
        due("undo(1)", y.undo(1), 1);
        due("undo(0)", y.undo(0), 0);
        due("one of both is dead", laid("p1;p0;" + knot(0, 1, 0, 0, 0)).undo(0), NO);
        next(0, "told in a text with the first fault");
        fault("p1;p1;" + knot(0, 1, 0, 5, 0) + "k0,2,0,5,0;p2;", 17);
        next(0, "people alive and dead, knots with their days, of kinds that slip, are tight till their day, are sealed");
        TiedToTown z = laid("p1;p0;p1;" + knot(0, 2, 0, 3, 1) + knot(0, 2, 0, 4, 2) + knot(0, 2, 0, 5, 3));
        int[] lives = {1, 0, 1};
        for (int i = 0; i < 3; i++) {
            due("person(" + i + ", 0)", z.person(i, 0), lives[i]);
            due("knot(" + i + ", 3)", z.knot(i, 3), i + 3);
            due("may(" + i + ")", z.may(i), i == 0 ? 1 : 0);
        }
        due("pull(0), that slips", z.pull(0), 1);
        z.days(4);
        due("undo(1) on its day", z.undo(1), 1);
        due("undo(2), alone", z.undo(2), 0);
        next(0, "knots undone, tied, pulled, cut, days that go by");
        TiedToTown w = new TiedToTown();
        due("undo(1)", w.undo(1), 1);
        due("tie", w.tie(0, 2, 1, 7, 1), 2);
        due("pull(2)", w.pull(2), 1);
        due("cut(0)", w.cut(0), 1);
        due("days(3)", w.days(3), 3);
        whatHasToBe();
    }

    private static void whatHasToBe() {
        next(0, "what has to be loosened for one, in which order all that is due is paid");
        TiedToTown x = new TiedToTown();
        x.tie(0, 2, 1, 5, 0);
        due("loosen(0)", x.loosen(0), 6);
        x.days(9);
        payIs(x, 3, 1, 2, 0);
        next(0, "what hangs on the dead for ever, whom it would free were he alive");
        TiedToTown y = laid("p1;p0;p1;" + knot(0, 2, 0, 0, 0) + knot(0, 1, 1, 0, 0) + knot(0, 2, 0, 0, 0));
        due("forEver()", y.forEver(), 3);
        due("frees(1), who is dead", y.frees(1), 2);
        due("frees(0), who lives", y.frees(0), 0);
        next(0, "how to tie a new one so that told ones stay free");
        int set = y.fresh(1, 1, 0);
        due("fresh(1, 1, 0)", set, 4);
        due("tie", y.tie(0, 2, set, 9, 0), 3);
        due("ABOVE the told one", y.knot(0, 6), 2);
        next(0, "in how many orders they can have been tied, an order that is judged");
        TiedToTown z = laid(TWO + knot(0, 1, 0, 0, 0) + knot(0, 1, 1, 0, 0) + knot(0, 1, 0, 0, 0));
        due("orders()", z.orders(), 3);
        z.tell(2);
        z.tell(1);
        due("judge() of 2, 1", z.judge(), NONE);
        z.tell(0);
        due("judge() of 2, 1, 0", z.judge(), 1);
        next(0, "ropes of crossings, loosened, alike, marks that never change");
        rope(z, 0, 2, 0, 1, 4);
        rope(z, 1, 4, 2);
        looseIs(z, 0, 2, 4);
        due("alike()", z.alike(), 1);
        marksNeverChange();
        next(0, "years by draws; what was done taken back, towns kept.");
        TiedToTown w = new TiedToTown();
        due("year(0, 1, 0)", w.year(0, 1, 0), 1);
        w.keep();
        w.undo(1);
        w.days(8);
        due("takeBack()", w.takeBack(), 1);
        due("back()", w.back(), 0);
        due("count(2)", w.count(2), 2);
    }

    /** Of every rope of five crossings: LOOSENED and told again, or turned by one, it has the same marks. */
    private static void marksNeverChange() {
        for (int told = 0; told < 1 << 15; told++) {
            TiedToTown x = new TiedToTown();
            for (int i = 0; i < 5; i++) {
                x.cross(0, told >> 3 * i & 7);
            }
            int left = x.loose(0, -1);
            for (int i = 0; i < left; i++) {
                x.cross(1, x.loose(0, (i + told) % left));
            }
            due("alike() of " + told, x.alike() > 0 ? 1 : 0, 1);
            for (int strand = 0; strand < 4; strand++) {
                due("mark of strand " + strand + " of " + told, x.mark(0, strand), x.mark(1, strand));
            }
        }
    }

    // ---- The public face

    private static void face() {
        next(0, "An object is used for at most 512 calls after it has been made; what later calls answer is free.");
        TiedToTown x = new TiedToTown();
        for (int i = 0; i < 255; i++) {
            due("undo(1)", x.undo(1), 1);
            due("takeBack()", x.takeBack(), 0);
        }
        due("call 511", x.tie(0, 2, 3, 99, 3), 2);
        due("call 512", x.knot(2, 3), 99);
        over("## The public face");
        int from = document().indexOf("```java", place);
        int to = document().indexOf("```", from + 3);
        String block = document().substring(from, to);
        over(block);
        sentence(0, "public final class TiedToTown {");
        due("the class is public and final", TiedToTown.class.getModifiers(), Modifier.PUBLIC | Modifier.FINAL);
        TreeSet<String> told = new TreeSet<>();
        Matcher method = Pattern.compile("public (int) (\\w+)\\(([^)]*)\\);").matcher(block);
        while (method.find()) {
            told.add(method.group(2) + "(" + method.group(3).replaceAll("(\\w+) \\w+", "$1") + ")");
        }
        due("31 calls are told", told.size(), 31);
        due("the calls: " + calls(), calls().equals(told) ? 1 : 0, 1);
        due("made without numbers", TiedToTown.class.getConstructors()[0].getParameterCount(), 0);
        sentence(0, "public static final int BAD = -1, NO = -2, FULL = -3, NONE = -4;");
        due("BAD", TiedToTown.BAD, -1);
        due("NO", TiedToTown.NO, -2);
        due("FULL", TiedToTown.FULL, -3);
        due("NONE", TiedToTown.NONE, -4);
        int fields = 0;
        for (Field f : TiedToTown.class.getFields()) {
            fields++;
            due(f.getName() + " is public static final int", f.getModifiers(), Modifier.PUBLIC | Modifier.STATIC | Modifier.FINAL);
        }
        due("public fields", fields, 4);
    }

    private static TreeSet<String> calls() {
        TreeSet<String> found = new TreeSet<>();
        for (Method m : TiedToTown.class.getDeclaredMethods()) {
            if (Modifier.isPublic(m.getModifiers()) && m.getReturnType() == int.class) {
                List<String> types = new ArrayList<>();
                for (Class<?> type : m.getParameterTypes()) {
                    types.add(type.getName());
                }
                found.add(m.getName() + "(" + String.join(", ", types) + ")");
            }
        }
        return found;
    }

    // ---- Terms, 1

    private static void text() {
        over("## Terms ======== 1");
        next(4, "A TEXT is bytes (300 at most), ITEMS one behind the other, each a letter, numbers (one to three figures)"
            + " parted by , and ; (behind the last one, too):");
        fault("", NONE);
        fault("p1;l1;p0;", NONE);
        fault(TWO + "k000,1,00,099,3;", NONE);
        fault("p1;p0001;", 3);
        fault("p1;p1", 3);
        fault("p1;;", 3);
        fault(TWO + "k0,1,0,0;", 6);
        fault(TWO + "k0,1,0,0,0", 6);
        due("count(7) of 300", put(new TiedToTown(), "l1;".repeat(100)).count(7), 300);
        due("write to 301", put(new TiedToTown(), "l1;".repeat(100)).write(1, ';'), FULL);
        over("```text");
        next(4, "pA a PERSON, alive (A 1) or dead (0); 6 at most, 0, 1, ..");
        TiedToTown x = laid("p0;p1;p0;p1;p1;p0;" + knot(5, 0, 0, 0, 0));
        for (int i = 0; i < 6; i++) {
            due("person(" + i + ", 0)", x.person(i, 0), i == 1 || i == 3 || i == 4 ? 1 : 0);
        }
        fault("p2;", 0);
        fault("p1;".repeat(7), 18);
        next(4, "kA,B,S,D,K a KNOT of PERSONS A and B (told ahead, unlike), THROUGH the KNOTS S (bits; told ahead; 0 none),"
            + " due on day D (0 to 99), of KIND K (0 PLAIN, 1 SLIP, 2 TIGHT, 3 SEALED); 8 at most, 0, 1, ..");
        TiedToTown y = laid(THREE + knot(2, 0, 0, 0, 3) + knot(0, 1, 1, 99, 2) + knot(1, 2, 3, 50, 1));
        knotIs("", y, 0, 2, 0, 0, 0, 3, 1, 6);
        knotIs("", y, 1, 0, 1, 1, 99, 2, 1, 4);
        knotIs("", y, 2, 1, 2, 3, 50, 1, 1, 0);
        fault(TWO + knot(0, 2, 0, 0, 0) + "p1;", 6);
        fault(TWO + knot(1, 1, 0, 0, 0), 6);
        fault(TWO + knot(0, 1, 1, 0, 0), 6);
        fault(TWO + knot(0, 1, 0, 100, 0), 6);
        fault(TWO + knot(0, 1, 0, 0, 4), 6);
        fault(TWO + knot(0, 1, 0, 0, 0).repeat(8), NONE);
        fault(TWO + knot(0, 1, 0, 0, 0).repeat(9), 94);
        next(4, "lL the LAW: 0 BOTH, 1 ONE, 2 TOWN (0 without; of several the last one counts)");
        due("without", laid(TWO + knot(0, 1, 0, 0, 0)).count(8), 0);
        due("of three", laid("l2;" + TWO + "l0;" + knot(0, 1, 0, 0, 0) + "l1;").count(8), 1);
        fault("l3;", 0);
        next(4, "FAULT: the place (from 0 on) of the first byte of the first ITEM that is not so.");
        fault("q1;p2;", 0);
        fault("p1;p2;q1;", 3);
        fault(TWO + knot(0, 1, 0, 0, 0) + "k0,1,2,0,0;p9;", 17);
        laidTerm();
    }

    private static void laidTerm() {
        next(5, "LAID is a TEXT without FAULT, of a KNOT at least (NO else; at first p1;p1;p1;k0,1,0,5,0;k1,2,1,9,0;).");
        due("lay() with a FAULT", put(new TiedToTown(), TWO + knot(0, 1, 0, 0, 0) + "p2;").lay(), NO);
        due("lay() without a KNOT", put(new TiedToTown(), TWO + "l1;").lay(), NO);
        due("lay() of one KNOT", put(new TiedToTown(), TWO + knot(0, 1, 0, 0, 0)).lay(), 1);
        TiedToTown x = laid(FIRST);
        x.wipe();
        sameWhole("at first: ", new TiedToTown(), x);
        next(5, "All KNOTS are TIED at first, on day 0.");
        counts("", laid(TWO + knot(0, 1, 0, 0, 0).repeat(5)), 2, 5, 5, 0);
        TiedToTown y = put(new TiedToTown(), FIRST);
        y.days(7);
        y.cut(0);
        y.lay();
        counts("LAID again: ", y, 3, 2, 2, 0);
    }

    // ---- Terms, 2

    private static void undone() {
        over("``` ======== 2");
        next(8, "A KNOT MAY be undone, if it is TIED, no TIED one is THROUGH it, and:");
        TiedToTown x = new TiedToTown();
        due("one is THROUGH it", x.may(0), 0);
        due("none is THROUGH it", x.may(1), 1);
        x.undo(1);
        due("it is not TIED", x.may(1), 0);
        due("no TIED one is THROUGH it", x.may(0), 1);
        next(8, "by BOTH both its PERSONS are alive, by ONE one of them at least, by TOWN whoever;");
        for (int law = 0; law <= 2; law++) {
            TiedToTown y = laid("p1;p1;p0;p0;l" + law + ";" + knot(0, 1, 0, 0, 0) + knot(0, 2, 0, 0, 0) + knot(2, 0, 0, 0, 0)
                + knot(3, 2, 0, 0, 0));
            due("law " + law + ", both are alive", y.may(0), 1);
            due("law " + law + ", the first is alive", y.may(1), law >= 1 ? 1 : 0);
            due("law " + law + ", the second is alive", y.may(2), law >= 1 ? 1 : 0);
            due("law " + law + ", none is alive", y.may(3), law == 2 ? 1 : 0);
        }
        next(8, "a TIGHT one on its day D or later;");
        TiedToTown y = laid(TWO + knot(0, 1, 0, 2, 2) + knot(0, 1, 0, 2, 0));
        for (int day = 0; day < 4; day++) {
            due("TIGHT, on day " + day, y.may(0), day >= 2 ? 1 : 0);
            due("PLAIN, on day " + day, y.may(1), 1);
            y.days(1);
        }
        next(8, "a SEALED one, if none of its two PERSONS has another TIED KNOT.");
        TiedToTown z = laid("p1;p1;p1;p1;" + knot(0, 1, 0, 0, 3) + knot(2, 0, 0, 0, 0) + knot(1, 3, 0, 0, 0) + knot(2, 3, 0, 0, 0));
        due("both have another", z.may(0), 0);
        z.undo(1);
        due("the second has another", z.may(0), 0);
        z.takeBack();
        z.undo(2);
        due("the first has another", z.may(0), 0);
        z.undo(1);
        due("none has another that is TIED", z.may(0), 1);
    }

    private static void doing() {
        over("```text");
        next(9, "It is UNDONE;");
        TiedToTown x = new TiedToTown();
        due("undo(1)", x.undo(1), 1);
        due("knot(1, 5)", x.knot(1, 5), 0);
        due("person(2, 1)", x.person(2, 1), 0);
        due("count(1)", x.count(1), 2);
        next(10, "or a new one is TIED (of PERSONS who are alive, THROUGH TIED KNOTS alone, as told in THE TEXT else; 8 in all at most).");
        TiedToTown y = laid("p1;p1;p0;l2;" + knot(0, 1, 0, 0, 0) + knot(0, 1, 0, 0, 0));
        due("with one who is dead", y.tie(0, 2, 0, 0, 0), NO);
        y.undo(1);
        due("THROUGH one that is UNDONE", y.tie(0, 1, 2, 0, 0), NO);
        due("on day 100", y.tie(0, 1, 0, 100, 0), BAD);
        due("as told", y.tie(1, 0, 1, 99, 3), 2);
        knotIs("", y, 2, 1, 0, 1, 99, 3, 1, 0);
        for (int k = 3; k < 8; k++) {
            due("tie", y.tie(0, 1, 0, 0, 0), k);
        }
        due("a ninth", y.tie(0, 1, 0, 0, 0), FULL);
        next(6, "ABOVE a KNOT are all TIED ones that are THROUGH it, or THROUGH one that is ABOVE it.");
        TiedToTown z = laid(TWO + knot(0, 1, 0, 0, 0) + knot(0, 1, 1, 0, 0) + knot(0, 1, 0, 0, 0) + knot(0, 1, 6, 0, 0)
            + knot(0, 1, 9, 0, 0));
        int[] above = {26, 24, 24, 16, 0};
        for (int k = 0; k < 5; k++) {
            due("knot(" + k + ", 6)", z.knot(k, 6), above[k]);
        }
        z.cut(3);
        int[] then = {2, 0, 0, 0, 0};
        for (int k = 0; k < 5; k++) {
            due("knot(" + k + ", 6) of what is TIED", z.knot(k, 6), then[k]);
        }
        pulledAndCut();
    }

    private static void pulledAndCut() {
        String all = "p1;p0;" + knot(0, 1, 0, 9, 0) + knot(0, 1, 1, 9, 1) + knot(0, 1, 2, 9, 1) + knot(0, 1, 4, 9, 1)
            + knot(0, 1, 1, 9, 2);
        next(11, "PULLED comes UNDONE it and all ABOVE it, if it is TIED and all of these (it, too) are SLIP, whoever lives;");
        TiedToTown x = laid(all);
        due("one ABOVE it, and it, are not SLIP", x.pull(0), NO);
        due("it is TIGHT", x.pull(4), NO);
        due("pull(2)", x.pull(2), 2);
        due("it is UNDONE", x.pull(2), NO);
        due("pull(1)", x.pull(1), 1);
        due("person(1, 1)", x.person(1, 1), 17);
        next(12, "CUT likewise, of whatever KINDS.");
        TiedToTown y = laid(all);
        due("cut(4)", y.cut(4), 1);
        due("it is not TIED", y.cut(4), NO);
        due("cut(0)", y.cut(0), 4);
        next(13, "Days go by (0 to 99).");
        due("the first day", y.count(3), 0);
        due("days(98)", y.days(98), 98);
        due("days(2)", y.days(2), NO);
        due("days(1)", y.days(1), 99);
        next(14, "TAKEN BACK is the latest of all these (all of one call at once; the last 8 can be).");
        due("days", y.takeBack(), 3);
        due("days", y.takeBack(), 2);
        due("the day", y.count(3), 0);
        due("a cut", y.takeBack(), 1);
        due("all four", y.count(2), 4);
        due("a cut", y.takeBack(), 0);
        due("all five", y.count(2), 5);
        due("nothing", y.takeBack(), NO);
        for (int i = 0; i < 9; i++) {
            y.days(1);
        }
        due("the last 8", y.count(5), 8);
    }

    // ---- Terms, 3

    private static void due() {
        over("``` ======== 3");
        next(15, "LOOSEN for a TIED KNOT: the fewest others that have to be undone ahead of it, today, so that it can be"
            + " (each as it MAY be where it comes): the set (bits); none.");
        TiedToTown x = laid("p1;p1;p1;p1;p0;" + knot(0, 1, 0, 0, 3) + knot(1, 2, 0, 0, 0) + knot(2, 3, 2, 3, 2)
            + knot(2, 3, 0, 0, 0) + knot(2, 4, 0, 0, 0));
        due("one ABOVE one of the same PERSON is TIGHT", x.loosen(0), NONE);
        due("one with the dead", x.loosen(4), NONE);
        x.days(3);
        due("today", x.loosen(0), 6);
        due("of what is ABOVE", x.loosen(1), 4);
        due("nothing", x.loosen(3), 0);
        x.undo(2);
        due("of what is TIED", x.loosen(0), 2);
        due("it is not TIED", x.loosen(2), NO);
        next(16, "PAY: all TIED KNOTS whose day D is today or earlier, and the fewest others that have to be undone ahead"
            + " of these: in turn always the lowest of all these that MAY be: how many (0, if nothing is due); the i-th;"
            + " none (not all can be).");
        TiedToTown y = laid(THREE + knot(0, 1, 0, 4, 0) + knot(0, 1, 0, 9, 0) + knot(1, 2, 1, 9, 0) + knot(0, 2, 0, 3, 0)
            + knot(0, 2, 8, 5, 2));
        payIs(y, 0, NONE);
        y.days(3);
        due("one in the way is TIGHT: pay(-1)", y.pay(-1), NONE);
        due("one in the way is TIGHT: pay(0)", y.pay(0), NONE);
        y.days(2);
        payIs(y, 4, 2, 0, 4, 3, NONE);
        y.undo(2);
        payIs(y, 3, 0, 4, 3, NONE);
        over("```text");
        next(17, "FOR EVER: the TIED KNOTS (bits) that can not be undone, whatever others are undone, were it day 99.");
        TiedToTown z = laid("p1;p1;p0;p0;" + knot(0, 1, 0, 99, 2) + knot(0, 1, 0, 0, 0) + knot(1, 2, 2, 0, 1) + knot(2, 3, 0, 0, 0)
            + knot(0, 1, 0, 0, 3));
        due("forEver()", z.forEver(), 30);
        z.pull(2);
        due("of what is TIED", z.forEver(), 8);
        z.takeBack();
        next(18, "FREES of a PERSON: how many fewer these would be, were he alive.");
        due("frees(0), who is", z.frees(0), 0);
        due("frees(2)", z.frees(2), 3);
        due("frees(3), with another who is dead", z.frees(3), 0);
    }

    private static void fresh() {
        next(19, "NEW of m (1 to 8) KNOTS, so that the KNOTS F (bits) stay free: of sets of m TIED KNOTS such that no KNOT of F"
            + " is one of them, nor has one of them ABOVE it, that by which the rope (the highest number less the lowest one)"
            + " is shortest, of several the lowest: the set; the rope; none.");
        TiedToTown x = laid(TWO + knot(0, 1, 0, 0, 0) + knot(0, 1, 0, 0, 0) + knot(0, 1, 1, 0, 0) + knot(0, 1, 0, 0, 0)
            + knot(0, 1, 0, 0, 0) + knot(0, 1, 16, 0, 0) + knot(0, 1, 0, 0, 0) + knot(0, 1, 0, 0, 0));
        int[][] cases = {{1, 0, 1, 0}, {8, 0, 255, 7}, {2, 4, 3, 1}, {2, 1, 24, 1}, {3, 1, 56, 2}, {3, 16, 7, 2}, {4, 16, 15, 3},
            {5, 16, 79, 6}, {3, 24, 7, 2}, {5, 1, 248, 4}, {6, 1, 250, 6}, {7, 1, NONE, NONE}, {3, 136, 7, 2}, {2, 139, 48, 1},
            {4, 8, 240, 3}, {1, 255, NONE, NONE}};
        for (int[] c : cases) {
            due("fresh(" + c[0] + ", " + c[1] + ", 0)", x.fresh(c[0], c[1], 0), c[2]);
            due("fresh(" + c[0] + ", " + c[1] + ", 1)", x.fresh(c[0], c[1], 1), c[3]);
        }
        x.undo(5);
        due("of TIED ones", x.fresh(2, 11, 0), 192);
        due("their rope", x.fresh(2, 11, 1), 1);
        for (int m : new int[] {0, 9}) {
            due("fresh(" + m + ", 0, 0)", x.fresh(m, 0, 0), BAD);
        }
    }

    private static void rows() {
        next(20, "ORDERS: in how many orders the TIED KNOTS can have been tied, each behind those TIED ones that it is THROUGH.");
        TiedToTown x = laid(TWO + knot(0, 1, 0, 0, 0) + knot(0, 1, 0, 0, 0) + knot(0, 1, 3, 0, 0) + knot(0, 1, 1, 0, 0));
        due("0 and 1 ahead of 2, 0 ahead of 3", x.orders(), 5);
        x.undo(2);
        due("0 ahead of 3, 1 anywhere", x.orders(), 3);
        x.undo(3);
        due("any", x.orders(), 2);
        x.undo(0);
        due("one", x.orders(), 1);
        due("eight, any", laid(TWO + knot(0, 1, 0, 0, 0).repeat(8)).orders(), 40320);
        next(23, "A told row of KNOTS (each once, TIED or not; it is empty as soon as a new one is TIED (not by a YEAR),"
            + " something TAKEN BACK, or back() is done) is JUDGED: the first of it that is THROUGH (as told, whatever is TIED)"
            + " one that comes behind it in the row; none.");
        TiedToTown y = laid(TWO + knot(0, 1, 0, 0, 0) + knot(0, 1, 1, 0, 0) + knot(0, 1, 2, 0, 0));
        y.cut(0);
        y.keep();
        due("tell(2)", y.tell(2), 1);
        due("tell(0)", y.tell(0), 2);
        due("2 is not THROUGH 0", y.judge(), NONE);
        due("tell(2), a second time", y.tell(2), NO);
        due("tell(1)", y.tell(1), 3);
        due("2 is THROUGH 1, TIED or not", y.judge(), 0);
        y.year(3, 60, 0);
        due("behind a YEAR", y.count(4), 3);
        y.tie(0, 1, 0, 0, 0);
        due("behind a new one", y.count(4), 0);
        due("judge() of nothing", y.judge(), NONE);
        y.tell(3);
        y.takeBack();
        due("behind something TAKEN BACK", y.count(4), 0);
        y.tell(0);
        y.tell(2);
        y.tell(1);
        due("the second is wrong", y.judge(), 1);
        y.back();
        due("behind back()", y.count(4), 0);
    }

    // ---- Terms, 4

    private static void ropes() {
        over("``` ======== 4");
        next(24, "A ROPE (0 and 1) is a row of crossings (16 at most), of c (0 to 7): the strand c by 2, cut, over (c even)"
            + " or under (odd).");
        for (int c = 0; c < 8; c++) {
            TiedToTown x = new TiedToTown();
            due("cross(1, " + c + ")", x.cross(1, c), 1);
            for (int strand = 0; strand < 4; strand++) {
                due("mark(1, " + strand + ") of " + c, x.mark(1, strand), strand != c / 2 ? 100 : c % 2 == 0 ? 101 : 99);
                due("mark(0, " + strand + ") of none", x.mark(0, strand), 100);
            }
            for (int i = 2; i <= 16; i++) {
                due("cross(1, " + c + ")", x.cross(1, c), i);
            }
            due("a seventeenth", x.cross(1, c), FULL);
        }
        next(26, "LOOSENED all two side by side of one strand, one over, one under, are taken out, again and again.");
        TiedToTown x = new TiedToTown();
        rope(x, 0, 6, 0, 3, 2, 4, 5, 1, 6, 5);
        looseIs(x, 0, 6, 6, 5);
        rope(x, 0, 0, 0, 2, 1, 3, 3);
        looseIs(x, 0, 0, 0, 2, 1, 3, 3);
        rope(x, 0, 7, 6, 7);
        looseIs(x, 0, 7);
        next(27, "ALIKE are both: 2, if LOOSENED they are the same; 1, if they are not, but are when of both also the first and"
            + " the last crossing are taken out, as long as they are of one strand, one over, one under, and one is turned round"
            + " in itself (some of its first crossings put behind the others); 0.");
        due("one and none", x.alike(), 0);
        rope(x, 1, 4, 5, 7);
        due("LOOSENED the same", x.alike(), 2);
        rope(x, 0, 1, 3, 0, 0, 4, 2, 0);
        rope(x, 1, 4, 0, 0);
        due("the ends of one, and a turn", x.alike(), 1);
        rope(x, 1, 6, 4, 0, 0, 7);
        due("the ends of both, and a turn", x.alike(), 1);
        rope(x, 1, 0, 4, 0);
        due("another turn", x.alike(), 1);
        rope(x, 1, 0, 4, 1);
        due("one under", x.alike(), 0);
        rope(x, 1, 0, 0, 4, 4);
        due("one more", x.alike(), 0);
        next(28, "MARK of a strand: how many of it are over less how many are under.");
        rope(x, 0, 0, 0, 1, 2, 3, 3, 3, 6, 7, 6, 5);
        int[] marks = {101, 98, 99, 101};
        for (int strand = 0; strand < 4; strand++) {
            due("mark(0, " + strand + ")", x.mark(0, strand), marks[strand]);
        }
    }

    /** Reckoned by hand: x x modulo 65521 of the days 0 to 3 is 1, 41487, 10299, 37479 for z 0, 22803 on day 0 for z 1. */
    private static void years() {
        over("```text");
        next(29, "A YEAR by z (0 to 9999) of n (1 to 60) days, from now on, without these going by else: on day t (0 first)"
            + " of KNOT q, q being ((x times x) modulo 65521) modulo how many KNOTS there are, x 7919 z, 6151 t and 1 together:"
            + " if it is TIED, it is undone, if it MAY be (today); else it is TIED again, if both its PERSONS are alive and all"
            + " that it is THROUGH are TIED: which are TIED then (bits); how often something was done.");
        TiedToTown x = laid(TWO + knot(0, 1, 0, 0, 0) + knot(0, 1, 1, 0, 0) + knot(0, 1, 0, 0, 0));
        yearIs("1, 0, 0, 0 of three", x, new int[] {5, 4, 5, 4}, new int[] {1, 2, 3, 4});
        due("22803 of three", x.year(1, 1, 1), 0);
        TiedToTown y = laid(TWO + knot(0, 1, 0, 0, 0) + knot(0, 1, 0, 0, 0) + knot(0, 1, 2, 0, 0));
        yearIs("1 MAY not be", y, new int[] {7, 6, 7, 6}, new int[] {0, 1, 2, 3});
        due("22803 of three", y.year(1, 1, 0), 6);
        TiedToTown z = laid("p1;p1;p0;l2;" + knot(0, 1, 0, 0, 0) + knot(0, 2, 0, 0, 0) + knot(0, 1, 2, 0, 0) + knot(0, 1, 2, 0, 0));
        yearIs("1, 3, 3, 3 of four", z, new int[] {15, 7, 15, 7}, new int[] {0, 1, 2, 3});
        z.cut(1);
        yearIs("THROUGH one that is not TIED, of one who is dead", z, new int[] {1, 1, 1, 1}, new int[] {0, 0, 0, 0});
        TiedToTown w = laid(TWO + knot(0, 1, 0, 1, 2));
        due("the days do not go by", w.year(0, 60, 1), 0);
        w.days(1);
        due("today", w.year(0, 60, 1), 60);
        due("today", w.year(0, 59, 0), 0);
        due("nothing was done", w.count(2), 1);
        due("nothing can be TAKEN BACK but the day", w.count(5), 1);
        next(30, "KEPT is all but THE TEXT, the told row and ROPES: 2 at most.");
        TiedToTown v = new TiedToTown();
        due("keep()", v.keep(), 1);
        due("keep()", v.keep(), 2);
        due("keep() of a third", v.keep(), FULL);
        v.write(2, bytes("p1"));
        v.cut(0);
        v.days(4);
        v.tie(0, 2, 0, 0, 0);
        rope(v, 0, 5);
        due("back()", v.back(), 1);
        counts("", v, 3, 2, 2, 0, 0, 0, 1, 2, 0);
        looseIs(v, 0, 5);
    }

    // ---- The answers

    private static void answers() {
        over("```");
        next(0, "BAD: a number is none that is told (PERSONS, KNOTS: such as there are; sets of KNOTS of these, 0, too).");
        TiedToTown x = new TiedToTown();
        due("PERSON 2", x.person(2, 0), 1);
        due("PERSON 3", x.person(3, 0), BAD);
        due("KNOT 1", x.knot(1, 0), 1);
        due("KNOT 2", x.knot(2, 0), BAD);
        due("the set 3", x.fresh(1, 3, 0), NONE);
        due("the set 4", x.fresh(1, 4, 0), BAD);
        due("the set 0", x.fresh(1, 0, 0), 1);
        next(0, "NO: not as things stand. NONE: there is none. FULL.");
        due("undo(0)", x.undo(0), NO);
        due("judge()", x.judge(), NONE);
        due("a seventeenth", fullRope().cross(0, 0), FULL);
        next(0, "Of several the first in this order; nothing changes then.");
        due("BAD, FULL", fullRope().cross(0, 8), BAD);
        TiedToTown y = laid("p1;p1;p0;" + knot(0, 1, 0, 0, 0).repeat(8));
        due("BAD, NO, FULL", y.tie(0, 2, 256, 0, 0), BAD);
        due("NO, FULL", y.tie(0, 2, 0, 0, 0), NO);
        due("FULL", y.tie(0, 1, 0, 0, 0), FULL);
        TiedToTown z = laid("p1;p0;" + knot(0, 1, 0, 0, 0));
        due("NONE", z.loosen(0), NONE);
        z.cut(0);
        due("NO, NONE", z.loosen(0), NO);
        due("nothing changes", y.count(1), 8);
        due("nothing is TAKEN BACK", y.count(5), 0);
    }

    private static TiedToTown fullRope() {
        TiedToTown x = new TiedToTown();
        rope(x, 0, 0, 0, 0, 0, 0, 0, 0, 0, 0, 0, 0, 0, 0, 0, 0, 0);
        return x;
    }

    private static void order() throws Exception {
        String source = Files.readString(Path.of("src/main/java/TiedToTown.java"), StandardCharsets.UTF_8);
        int from = 0;
        from = part(source, from, "Ahead of the calls `write`, `wipe`, `fault`, `lay`, `knot`, `person` the interface says: ---- towns.");
        from = part(source, from, "Ahead of the calls `may`, `undo`, `tie`, `pull`, `cut`, `days`, `takeBack` the interface says: ---- knots.");
        from = part(source, from, "Ahead of the calls `loosen`, `pay`, `forEver`, `frees`, `fresh`, `orders`, `tell`, `noRow`, `judge`"
            + " the interface says: ---- what has to be.");
        part(source, from, "Ahead of the calls `cross`, `smooth`, `loose`, `alike`, `mark`, `year`, `keep`, `back`, `count`"
            + " the interface says: ---- ropes.");
    }

    /** The source says it, too, and has these calls behind it, in this order. */
    private static int part(String source, int from, String words) {
        next(0, words);
        String says = "// " + words.substring(words.indexOf("----"), words.length() - 1) + "\n";
        int at = source.indexOf(says, from);
        due(says.trim(), at >= from ? 1 : 0, 1);
        Matcher call = Pattern.compile("`(\\w+)`").matcher(words);
        while (call.find()) {
            int then = source.indexOf("public int " + call.group(1) + "(", from);
            due(call.group(1) + " stands in its place", then > at ? 1 : 0, 1);
            at = then;
        }
        return at;
    }

    // ---- The promises

    private static void promisesOfTowns() {
        promise(1, "A new object", "TiedToTown()");
        next(1, "As told; THE TEXT is empty.");
        counts("new: ", new TiedToTown(), 3, 2, 2, 0, 0, 0, 0, 0, 0);
        promise(2, "write", "int write(int n, long v)");
        next(2, "The lowest n bytes (1 to 8) of v, the highest of these first, come behind THE TEXT: how long it is. BAD; FULL.");
        TiedToTown x = new TiedToTown();
        due("write(3, ..)", x.write(3, bytes("zzzzzp1;")), 3);
        due("write(8, ..)", x.write(8, bytes("p0;k1,0,")), 11);
        due("write(6, ..)", x.write(6, bytes("zz0,5,2;")), 17);
        due("fault()", x.fault(), NONE);
        due("write(0, ..)", x.write(0, 0), BAD);
        due("write(9, ..)", x.write(9, 0), BAD);
        due("write to 301", put(new TiedToTown(), "l".repeat(293)).write(8, 0), FULL);
        due("write to 300", put(new TiedToTown(), "l".repeat(293)).write(7, 0), 300);
        promise(3, "wipe", "int wipe()");
        next(3, "THE TEXT is empty: how long it was.");
        TiedToTown y = put(new TiedToTown(), "p1;p");
        due("wipe()", y.wipe(), 4);
        due("wipe() of none", y.wipe(), 0);
        promise(4, "fault", "int fault()");
        next(4, "FAULT. NONE.");
        fault("p1;p", 3);
        fault("p1;p1;", NONE);
        promise(5, "lay", "int lay()");
        next(5, "LAID: how many KNOTS; no told row, no crossings, nothing TAKEN BACK, KEPT (THE TEXT stays). NO.");
        x.tell(0);
        x.days(1);
        x.keep();
        rope(x, 0, 1);
        rope(x, 1, 2, 3);
        due("lay()", x.lay(), 1);
        counts("LAID: ", x, 2, 1, 1, 0, 0, 0, 0, 17, 0);
        due("smooth(0)", x.smooth(0), 0);
        due("smooth(1)", x.smooth(1), 0);
        due("lay() of nothing", new TiedToTown().lay(), NO);
        promise(6, "knot", "int knot(int k, int what)");
        next(6, "Of a KNOT: A (what = 0), B (1), THROUGH as bits (2), D (3), KIND (4), 1 if it is TIED (5), ABOVE as bits (6). BAD.");
        knotIs("", x, 0, 1, 0, 0, 5, 2, 1, 0, BAD);
        due("knot(0, -1)", x.knot(0, -1), BAD);
        due("knot(1, 0)", x.knot(1, 0), BAD);
        promise(7, "person", "int person(int i, int what)");
        next(7, "Of a PERSON: 1 if he is alive (what = 0), his TIED KNOTS as bits (1). BAD.");
        due("person(1, 0)", x.person(1, 0), 0);
        due("person(1, 1)", x.person(1, 1), 1);
        due("person(1, 2)", x.person(1, 2), BAD);
        due("person(2, 0)", x.person(2, 0), BAD);
    }

    private static void promisesOfKnots() {
        TiedToTown x = laid(THREE + knot(0, 1, 0, 5, 1) + knot(1, 2, 1, 9, 1) + knot(0, 2, 0, 3, 0));
        promise(8, "may", "int may(int k)");
        next(8, "Whether a KNOT MAY be undone: 1, 0. BAD.");
        due("may(1)", x.may(1), 1);
        due("may(0)", x.may(0), 0);
        due("may(3)", x.may(3), BAD);
        promise(9, "undo", "int undo(int k)");
        next(9, "UNDONE: how many are TIED still. BAD; NO.");
        due("undo(2)", x.undo(2), 2);
        due("undo(2) again", x.undo(2), NO);
        due("undo(3)", x.undo(3), BAD);
        promise(10, "tie", "int tie(int a, int b, int s, int d, int kind)");
        next(10, "A new one is TIED: its number. BAD (as in THE TEXT); NO: one is dead, not all of S are TIED; FULL.");
        due("tie", x.tie(0, 1, 3, 0, 0), 3);
        due("tie THROUGH 2", x.tie(0, 1, 4, 0, 0), NO);
        due("tie THROUGH 4", x.tie(0, 1, 16, 0, 0), BAD);
        promise(11, "pull", "int pull(int k)");
        next(11, "PULLED: how many came UNDONE. BAD; NO.");
        due("pull(0) under a PLAIN one", x.pull(0), NO);
        x.undo(3);
        due("pull(0)", x.pull(0), 2);
        due("pull(4)", x.pull(4), BAD);
        promise(12, "cut", "int cut(int k)");
        next(12, "CUT: how many came UNDONE. BAD; NO: it is not TIED.");
        due("cut(0)", x.cut(0), NO);
        due("cut(4)", x.cut(4), BAD);
        x.takeBack();
        x.takeBack();
        due("cut(1)", x.cut(1), 2);
        promise(13, "days", "int days(int n)");
        next(13, "n days (1 to 99) go by: the day. BAD; NO: above 99.");
        due("days(0)", x.days(0), BAD);
        due("days(60)", x.days(60), 60);
        due("days(40)", x.days(40), NO);
        promise(14, "takeBack", "int takeBack()");
        next(14, "TAKEN BACK: how many more can be. NO.");
        for (int more = 3; more >= 0; more--) {
            due("takeBack()", x.takeBack(), more);
        }
        due("takeBack()", x.takeBack(), NO);
        counts("all TAKEN BACK: ", x, 3, 3, 3, 0, 0, 0);
    }

    private static void promisesOfWhatHasToBe() {
        TiedToTown x = laid("p1;p1;p0;" + knot(0, 1, 0, 0, 0) + knot(0, 1, 1, 9, 0) + knot(0, 2, 0, 4, 0));
        promise(15, "loosen", "int loosen(int k)");
        next(15, "LOOSEN, as bits. NONE; BAD; NO: it is not TIED.");
        due("loosen(0)", x.loosen(0), 2);
        due("loosen(2)", x.loosen(2), NONE);
        due("loosen(3)", x.loosen(3), BAD);
        promise(16, "pay", "int pay(int i)");
        next(16, "PAY: how many (i = -1), the i-th. NONE (not so many, too); BAD (i below -1).");
        payIs(x, 2, 1, 0, NONE);
        due("pay(-2)", x.pay(-2), BAD);
        x.days(4);
        payIs(x, NONE, NONE);
        promise(17, "forEver", "int forEver()");
        next(17, "FOR EVER, as bits.");
        due("forEver()", x.forEver(), 4);
        promise(18, "frees", "int frees(int i)");
        next(18, "FREES. BAD.");
        due("frees(2)", x.frees(2), 1);
        due("frees(3)", x.frees(3), BAD);
        promise(19, "fresh", "int fresh(int m, int f, int what)");
        next(19, "NEW: the set (what = 0), the rope (1). NONE; BAD.");
        due("fresh(2, 4, 0)", x.fresh(2, 4, 0), 3);
        due("fresh(2, 4, 1)", x.fresh(2, 4, 1), 1);
        due("fresh(2, 1, 0)", x.fresh(2, 1, 0), NONE);
        due("fresh(2, 4, 2)", x.fresh(2, 4, 2), BAD);
        promise(20, "orders", "int orders()");
        next(20, "ORDERS.");
        due("orders()", x.orders(), 3);
        promise(21, "tell", "int tell(int k)");
        next(21, "A KNOT more in the told row: how many. BAD; NO: it is in it.");
        due("tell(1)", x.tell(1), 1);
        due("tell(1)", x.tell(1), NO);
        due("tell(3)", x.tell(3), BAD);
        due("tell(0)", x.tell(0), 2);
        due("judge()", x.judge(), 0);
        promise(22, "noRow", "int noRow()");
        next(22, "No told row: how many it had.");
        due("noRow()", x.noRow(), 2);
        due("noRow()", x.noRow(), 0);
        promise(23, "judge", "int judge()");
        next(23, "JUDGED: its place in the row. NONE.");
        due("judge() of none", x.judge(), NONE);
        x.tell(2);
        x.tell(1);
        x.tell(0);
        due("judge()", x.judge(), 1);
    }

    private static void promisesOfRopes() {
        TiedToTown x = new TiedToTown();
        promise(24, "cross", "int cross(int rope, int c)");
        next(24, "A crossing more of a ROPE: how many. BAD; FULL.");
        due("cross(0, 7)", x.cross(0, 7), 1);
        due("cross(0, 2)", x.cross(0, 2), 2);
        due("cross(1, 3)", x.cross(1, 3), 1);
        due("cross(0, 8)", x.cross(0, 8), BAD);
        due("cross(2, 0)", x.cross(2, 0), BAD);
        due("a seventeenth", fullRope().cross(0, 1), FULL);
        promise(25, "smooth", "int smooth(int rope)");
        next(25, "A ROPE without crossings: how many it had. BAD.");
        due("smooth(1)", x.smooth(1), 1);
        due("smooth(1)", x.smooth(1), 0);
        due("smooth(2)", x.smooth(2), BAD);
        promise(26, "loose", "int loose(int rope, int i)");
        next(26, "LOOSENED: how many crossings (i = -1), the i-th. NONE; BAD (i below -1).");
        looseIs(x, 0, 7, 2);
        due("loose(0, -2)", x.loose(0, -2), BAD);
        promise(27, "alike", "int alike()");
        next(27, "ALIKE: 2, 1, 0.");
        due("alike()", x.alike(), 0);
        rope(x, 1, 2, 7);
        due("alike()", x.alike(), 1);
        rope(x, 1, 7, 2);
        due("alike()", x.alike(), 2);
        promise(28, "mark", "int mark(int rope, int strand)");
        next(28, "MARK of a strand (0 to 3) and 100. BAD.");
        due("mark(0, 3)", x.mark(0, 3), 99);
        due("mark(0, 1)", x.mark(0, 1), 101);
        due("mark(0, 4)", x.mark(0, 4), BAD);
        promise(29, "year", "int year(int z, int n, int what)");
        next(29, "A YEAR: TIED as bits (what = 0), how often (1). BAD.");
        due("year(0, 2, 0)", x.year(0, 2, 0), 3);
        due("year(0, 2, 1)", x.year(0, 2, 1), 2);
        due("year(0, 2, 2)", x.year(0, 2, 2), BAD);
        due("year(10000, 2, 0)", x.year(10000, 2, 0), BAD);
        due("year(0, 61, 0)", x.year(0, 61, 0), BAD);
        promise(30, "keep", "int keep()");
        next(30, "KEPT: how many. FULL.");
        due("keep()", x.keep(), 1);
        x.undo(1);
        due("keep()", x.keep(), 2);
        due("keep()", x.keep(), FULL);
        x.undo(0);
        promise(31, "back", "int back()");
        next(31, "As KEPT last (it is KEPT no more then): how many are left; nothing is TAKEN BACK then. NO.");
        due("back()", x.back(), 1);
        due("count(2)", x.count(2), 1);
        due("takeBack()", x.takeBack(), NO);
        due("back()", x.back(), 0);
        due("count(2)", x.count(2), 2);
        due("back()", x.back(), NO);
        promise(32, "count", "int count(int what)");
        next(32, "How many: 0 PERSONS, 1 KNOTS, 2 that are TIED, 3 the day, 4 of the told row, 5 that can be TAKEN BACK, 6 KEPT,"
            + " 7 bytes of THE TEXT, 8 the LAW. BAD.");
        TiedToTown y = laid("p1;p1;p1;p1;l1;" + knot(0, 1, 0, 0, 0).repeat(3));
        y.days(7);
        y.cut(2);
        y.tell(2);
        y.keep();
        counts("", y, 4, 3, 2, 7, 1, 2, 1, 48, 1, BAD);
        due("count(-1)", y.count(-1), BAD);
    }

    private static void notPromised() {
        over("## Not promised");
        over("How the state is held inside the object is free, as are the speed of each call, the text of toString and the"
            + " behaviour of equals and hashCode. Use of one object from several threads at once is not promised to be safe.");
        next(0, "Nothing is promised beyond the answers and state changes described above");
        sameWhole("asking changes nothing: ", asked(fiveDays()), fiveDays());
        over(", and nothing about an object after its 512th call.");
        if (isWords(document().substring(place))) {
            fail("the document goes on");
        }
    }

    private static TiedToTown fiveDays() {
        TiedToTown x = laid(FIRST);
        x.days(5);
        return x;
    }

    private static TiedToTown asked(TiedToTown x) {
        x.fault();
        x.year(5, 60, 0);
        x.orders();
        x.forEver();
        x.frees(0);
        x.fresh(1, 2, 0);
        x.loosen(0);
        x.pay(0);
        x.alike();
        x.judge();
        return x;
    }
}
