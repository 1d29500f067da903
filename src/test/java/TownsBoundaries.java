/** Promises 1 to 7 and THE TEXT: a test for each sentence with a boundary, the answers taken from its words. */
public final class TownsBoundaries extends Answers {
    private static final String TWO = "p1;p1;";
    private static final String EIGHT = eightKnots();

    public static void main(String[] args) {
        newObject();
        longUse();
        writeSizes();
        writeFull();
        wipe();
        textSize();
        letters();
        figures();
        separators();
        persons();
        knotPeople();
        knotThrough();
        knotDayAndKind();
        knotCount();
        law();
        faultPlace();
        fault();
        laidOrNo();
        layEmpties();
        tiedAtFirst();
        knotNumbers();
        knotAbove();
        person();
        mustHaveAsked(1, 7);
        end();
    }

    private static String eightKnots() {
        StringBuilder s = new StringBuilder(TWO);
        for (int k = 0; k < 8; k++) {
            s.append(knot(0, 1, 0, 0, 0));
        }
        return s.toString();
    }

    private static void newObject() {
        sentence(1, "THE TEXT is empty.");
        TiedToTown x = new TiedToTown();
        due("count(7)", x.count(7), 0);
        due("fault()", x.fault(), NONE);
        due("lay(), for want of a KNOT", x.lay(), NO);
        due("write(1, ';')", x.write(1, ';'), 1);
        due("wipe()", x.wipe(), 1);
        due("wipe() of nothing", new TiedToTown().wipe(), 0);
        sentence(1, "at first p1;p1;p1;k0,1,0,5,0;k1,2,1,9,0;");
        TiedToTown y = laid(FIRST);
        y.wipe();
        sameWhole("new and laid: ", new TiedToTown(), y);
        counts("new: ", new TiedToTown(), 3, 2, 2, 0, 0, 0, 0, 0, 0);
        knotIs("new: ", new TiedToTown(), 0, 0, 1, 0, 5, 0, 1, 2);
        knotIs("new: ", new TiedToTown(), 1, 1, 2, 1, 9, 0, 1, 0);
        sentence(1, "As told; THE TEXT is empty.");
        TiedToTown used = put(new TiedToTown(), EIGHT);
        used.lay();
        used.days(9);
        used.keep();
        rope(used, 0, 1, 2);
        counts("another, behind a used one: ", new TiedToTown(), 3, 2, 2, 0, 0, 0, 0, 0, 0);
    }

    private static void longUse() {
        sentence(1, "An object is used for at most 512 calls after it has been made");
        TiedToTown x = new TiedToTown();
        for (int i = 0; i < 50; i++) {
            due("days(1)", x.days(1), i + 1);
        }
        for (int i = 0; i < 454; i++) {
            due("cut, takeBack by turns", i % 2 == 0 ? x.cut(0) : x.takeBack(), i % 2 == 0 ? 2 : 7);
        }
        for (int i = 0; i < 7; i++) {
            due("takeBack()", x.takeBack(), 6 - i);
        }
        due("the 512th call", x.count(3), 43);
    }

    private static void writeSizes() {
        sentence(2, "The lowest n bytes (1 to 8) of v");
        TiedToTown x = new TiedToTown();
        for (int n : new int[] {0, 9, -1, 10, 16, 64, MIN, MAX}) {
            due("write(" + n + ", 'p1;')", x.write(n, bytes("p1;")), BAD);
        }
        due("count(7) then", x.count(7), 0);
        String text = FIRST + "l2;";
        for (int n = 1; n <= 8; n++) {
            inPieces(text, n);
        }
        sentence(2, "the highest of these first");
        fault("p1;", NONE);
        due("write(3, ';1p')", new TiedToTown().write(3, bytes(";1p")), 3);
        TiedToTown y = new TiedToTown();
        y.write(3, bytes(";1p"));
        due("fault() of ;1p", y.fault(), 0);
        y.wipe();
        due("write(8, 'p1;p0;l2')", y.write(8, bytes("p1;p0;l2")), 8);
        due("fault() of p1;p0;l2", y.fault(), 6);
        due("write(1, ';')", y.write(1, ';'), 9);
        due("fault() of p1;p0;l2;", y.fault(), NONE);
        sentence(2, "come behind THE TEXT: how long it is");
        TiedToTown z = new TiedToTown();
        int size = 0;
        for (int n = 1; n <= 8; n++) {
            size += n;
            due("write(" + n + ", -1)", z.write(n, -1L), size);
            due("write(" + n + ", lowest)", z.write(n, Long.MIN_VALUE), size + n);
            size += n;
            due("count(7)", z.count(7), size);
        }
    }

    /** The bytes above the lowest n are not of THE TEXT, whatever they are. */
    private static void inPieces(String text, int n) {
        TiedToTown x = new TiedToTown();
        for (int from = 0; from < text.length(); from += n) {
            String piece = text.substring(from, Math.min(text.length(), from + n));
            long above = piece.length() == 8 ? 0 : bytes("zzzzzzzz") << (8 * piece.length());
            due("write in pieces of " + n, x.write(piece.length(), above | bytes(piece)), from + piece.length());
        }
        due("fault() in pieces of " + n, x.fault(), NONE);
        due("lay() in pieces of " + n, x.lay(), 2);
        due("knot(1, 3) in pieces of " + n, x.knot(1, 3), 9);
        due("count(8) in pieces of " + n, x.count(8), 2);
    }

    private static TiedToTown filled(int size) {
        TiedToTown x = new TiedToTown();
        for (int left = size; left > 0; left -= Math.min(8, left)) {
            x.write(Math.min(8, left), 0);
        }
        return x;
    }

    private static void writeFull() {
        sentence(2, "BAD; FULL.");
        for (int n = 1; n <= 8; n++) {
            due("write(" + n + ") to 299", filled(299 - n).write(n, 0), 299);
            due("write(" + n + ") to 300", filled(300 - n).write(n, 0), 300);
            TiedToTown x = filled(301 - n);
            due("write(" + n + ") to 301", x.write(n, 0), FULL);
            due("count(7) then", x.count(7), 301 - n);
            due("write(1) at 300", filled(300).write(1, 0), FULL);
        }
        TiedToTown x = filled(300);
        due("write(0) at 300", x.write(0, 0), BAD);
        due("write(9) at 300", x.write(9, 0), BAD);
        due("write(MIN) at 300", x.write(MIN, 0), BAD);
        TiedToTown y = put(new TiedToTown(), "l0;".repeat(99));
        due("write(8, 'l1;l1;l1') to 305", y.write(8, bytes("l1;l1;l1")), FULL);
        due("fault(), nothing of it stands", y.fault(), NONE);
        due("write(3, 'l1;') to 300", y.write(3, bytes("l1;")), 300);
        due("fault()", y.fault(), NONE);
    }

    private static void wipe() {
        sentence(3, "THE TEXT is empty: how long it was.");
        TiedToTown x = filled(300);
        due("wipe() of 300", x.wipe(), 300);
        due("wipe() of none", x.wipe(), 0);
        due("count(7)", x.count(7), 0);
        for (int i = 0; i < 100; i++) {
            due("300 again", x.write(3, bytes("p1;")), 3 * i + 3);
        }
        due("write(1) at 300", x.write(1, 0), FULL);
        due("wipe()", x.wipe(), 300);
        due("fault()", x.fault(), NONE);
        due("the town is as it was", x.count(1), 2);
        TiedToTown y = put(new TiedToTown(), "p");
        due("wipe() of one", y.wipe(), 1);
        y.write(2, bytes("1;"));
        due("nothing of the wiped one is ahead", y.fault(), 0);
        TiedToTown z = put(new TiedToTown(), "p1;");
        z.wipe();
        z.write(2, bytes("p1"));
        due("nothing of the wiped one is behind", z.fault(), 0);
    }

    private static void textSize() {
        sentence(4, "A TEXT is bytes (300 at most)");
        fault("l0;".repeat(100), NONE);
        fault("l0;".repeat(99) + "l00", 297);
        fault("l00;l00;" + "l0;".repeat(97) + "l", 299);
        fault("l00;l00;" + "l0;".repeat(97) + ";", 299);
        TiedToTown x = laid(TWO + "l0;".repeat(93) + "l02;" + knot(0, 1, 0, 9, 3));
        due("count(7), a KNOT the last one", x.count(7), 300);
        knotIs("a KNOT the last one: ", x, 0, 0, 1, 0, 9, 3, 1, 0);
        due("count(8)", x.count(8), 2);
        TiedToTown y = laid(TWO + knot(0, 1, 0, 0, 0) + "l0;".repeat(93) + "l02;");
        due("count(7), a LAW the last one", y.count(7), 300);
        due("count(8)", y.count(8), 2);
    }

    private static void letters() {
        sentence(4, "ITEMS one behind the other, each a letter, numbers (one to three figures) parted by , and ; (behind the last one, too)");
        for (int b = 0; b < 256; b++) {
            String letter = "" + (char) b;
            fault(letter + "1;", b == 'p' || b == 'l' ? NONE : 0);
            fault("p1;" + letter, 3);
            fault(TWO + letter + "0,1,0,0,0;", b == 'k' ? NONE : 6);
        }
        fault(";", 0);
        fault("p1;;", 3);
        fault("p1; p1;", 3);
        fault("p1;\np1;", 3);
        fault(" p1;", 0);
        fault("p1;0;", 3);
        fault("1;", 0);
        fault("pp1;", 0);
        fault("p1p1;", 0);
    }

    private static void figures() {
        sentence(4, "numbers (one to three figures)");
        for (int b = 0; b < 256; b++) {
            String sign = "" + (char) b;
            fault("p" + sign + ";", b == '0' || b == '1' ? NONE : 0);
            fault("l" + sign + ";", b >= '0' && b <= '2' ? NONE : 0);
            fault("p0" + sign + "1;", b == '0' ? NONE : b == ';' ? 3 : 0);
            fault(TWO + "k0,1,0,9" + sign + ",0;", b >= '0' && b <= '9' ? NONE : 6);
        }
        for (String zeros : new String[] {"", "0", "00", "000", "0000"}) {
            int ok = zeros.length() <= 2 ? NONE : 0;
            fault("p" + zeros + "1;", ok);
            fault("l" + zeros + "2;", ok);
            int[] numbers = {1, 0, 1, 9, 3};
            for (int place = 0; place < 5; place++) {
                String item = knotWith(place, zeros + numbers[place]);
                fault(TWO + knot(0, 1, 0, 0, 0) + item, ok == NONE ? NONE : 17);
            }
        }
        for (int place = 0; place < 5; place++) {
            fault(TWO + knot(0, 1, 0, 0, 0) + knotWith(place, ""), 17);
        }
        fault("p;", 0);
        fault("l;", 0);
    }

    /** k1,0,1,9,3; with other figures at one place. */
    private static String knotWith(int place, String figures) {
        String[] numbers = {"1", "0", "1", "9", "3"};
        numbers[place] = figures;
        return "k" + String.join(",", numbers) + ";";
    }

    private static void separators() {
        sentence(4, "parted by , and ; (behind the last one, too)");
        for (int b = 0; b < 256; b++) {
            String sign = "" + (char) b;
            fault("p1" + sign, b == ';' ? NONE : 0);
            fault("p001" + sign, b == ';' ? NONE : 0);
            fault("l1" + sign, b == ';' ? NONE : 0);
            fault(TWO + "k0,1,0,0,0" + sign, b == ';' ? NONE : 6);
            fault(TWO + "k0" + sign + "1,0,0,0;", b == ',' ? NONE : 6);
            fault(TWO + "k0,1" + sign + "0,0,0;", b == ',' ? NONE : 6);
            fault(TWO + "k0,1,0" + sign + "0,0;", b == ',' ? NONE : 6);
            fault(TWO + "k0,1,0,0" + sign + "0;", b == ',' ? NONE : 6);
        }
        fault("p1,;", 0);
        fault("p,1;", 0);
        fault("p1,1;", 0);
        fault("l1,1;", 0);
        fault(TWO + "k;", 6);
        fault(TWO + "k0;", 6);
        fault(TWO + "k0,1;", 6);
        fault(TWO + "k0,1,0;", 6);
        fault(TWO + "k0,1,0,0;", 6);
        fault(TWO + "k0,1,0,0,0,;", 6);
        fault(TWO + "k0,1,0,0,0,0;", 6);
        fault(TWO + "k,0,1,0,0,0;", 6);
        fault(TWO + "k0,,1,0,0,0;", 6);
        String text = TWO + knot(0, 1, 0, 10, 0) + "l1;p0;" + knot(1, 2, 1, 9, 3);
        int item = 0;
        for (int size = 1; size <= text.length(); size++) {
            boolean whole = text.charAt(size - 1) == ';';
            fault(text.substring(0, size), whole ? NONE : item);
            item = whole ? size : item;
        }
    }

    private static void persons() {
        sentence(4, "a PERSON, alive (A 1) or dead (0); 6 at most, 0, 1, ..");
        for (int a = 0; a <= 999; a++) {
            fault("p" + a + ";", a <= 1 ? NONE : 0);
        }
        fault("p1;".repeat(6), NONE);
        fault("p0;".repeat(6), NONE);
        fault("p1;".repeat(7), 18);
        fault("p0;".repeat(7), 18);
        fault("p1;".repeat(6) + knot(0, 5, 0, 0, 0) + "l1;p1;", 32);
        TiedToTown x = laid(people(1, 0, 1, 0, 0, 1) + knot(5, 0, 0, 0, 0));
        due("count(0)", x.count(0), 6);
        int[] lives = {1, 0, 1, 0, 0, 1};
        for (int i = 0; i < 6; i++) {
            due("person(" + i + ", 0)", x.person(i, 0), lives[i]);
        }
        TiedToTown y = laid("p1;p1;" + knot(0, 1, 0, 0, 0) + "p0;p1;");
        due("PERSONS behind a KNOT", y.count(0), 4);
        due("PERSON 2", y.person(2, 0), 0);
        due("PERSON 3", y.person(3, 0), 1);
    }

    private static void knotPeople() {
        sentence(4, "a KNOT of PERSONS A and B (told ahead, unlike)");
        for (int persons = 1; persons <= 6; persons++) {
            for (int n = 0; n <= 12; n++) {
                String ahead = "p1;".repeat(persons);
                boolean ok = n != 0 && n < persons;
                fault(ahead + knot(0, n, 0, 0, 0), ok ? NONE : 3 * persons);
                fault(ahead + knot(n, 0, 0, 0, 0), ok ? NONE : 3 * persons);
                fault(ahead + knot(n, n, 0, 0, 0), 3 * persons);
            }
            fault("p1;".repeat(persons) + knot(0, 999, 0, 0, 0), 3 * persons);
            fault("p1;".repeat(persons) + knot(256, 0, 0, 0, 0), 3 * persons);
        }
        fault(knot(0, 1, 0, 0, 0) + TWO, 0);
        fault("p1;" + knot(0, 1, 0, 0, 0) + "p1;", 3);
        fault("p1;" + knot(1, 0, 0, 0, 0) + "p1;", 3);
        fault(TWO + knot(0, 1, 0, 0, 0) + "p1;" + knot(2, 1, 1, 0, 0), NONE);
        fault("p0;p0;" + knot(0, 1, 0, 0, 0), NONE);
    }

    private static void knotThrough() {
        sentence(4, "THROUGH the KNOTS S (bits; told ahead; 0 none)");
        StringBuilder ahead = new StringBuilder(TWO);
        for (int k = 0; k < 8; k++) {
            for (int s = 0; s <= 999; s++) {
                fault(ahead + knot(0, 1, s, 0, 0), s < 1 << k ? NONE : ahead.length());
            }
            ahead.append(knot(0, 1, (1 << k) - 1, 0, 0));
        }
        TiedToTown x = laid(ahead.toString());
        for (int k = 0; k < 8; k++) {
            due("knot(" + k + ", 2)", x.knot(k, 2), (1 << k) - 1);
            due("knot(" + k + ", 6)", x.knot(k, 6), 256 - (2 << k));
        }
        TiedToTown y = laid(EIGHT);
        for (int k = 0; k < 8; k++) {
            due("THROUGH none: knot(" + k + ", 2)", y.knot(k, 2), 0);
            due("THROUGH none: may(" + k + ")", y.may(k), 1);
        }
    }

    private static void knotDayAndKind() {
        sentence(4, "due on day D (0 to 99)");
        for (int d = 0; d <= 999; d++) {
            fault(TWO + knot(0, 1, 0, d, 0), d <= 99 ? NONE : 6);
        }
        due("D 0", laid(TWO + knot(0, 1, 0, 0, 0)).knot(0, 3), 0);
        due("D 99", laid(TWO + knot(0, 1, 0, 99, 0)).knot(0, 3), 99);
        sentence(4, "of KIND K (0 PLAIN, 1 SLIP, 2 TIGHT, 3 SEALED)");
        for (int kind = 0; kind <= 999; kind++) {
            fault(TWO + knot(0, 1, 0, 0, kind), kind <= 3 ? NONE : 6);
        }
        for (int kind = 0; kind <= 3; kind++) {
            due("KIND " + kind, laid(TWO + knot(0, 1, 0, 0, kind)).knot(0, 4), kind);
        }
    }

    private static void knotCount() {
        sentence(4, "8 at most, 0, 1, ..");
        fault(EIGHT, NONE);
        fault(EIGHT + knot(0, 1, 0, 0, 0), EIGHT.length());
        fault(EIGHT + "l1;p0;" + knot(0, 1, 0, 0, 0), EIGHT.length() + 6);
        fault(EIGHT + "l1;p0;", NONE);
        due("lay() of eight", laid(EIGHT).lay(), 8);
        due("lay() of nine", put(new TiedToTown(), EIGHT + knot(0, 1, 0, 0, 0)).lay(), NO);
        TiedToTown x = laid(TWO + knot(0, 1, 0, 3, 0) + knot(1, 0, 0, 4, 1));
        knotIs("the first is 0: ", x, 0, 0, 1, 0, 3, 0, 1, 0);
        knotIs("the next is 1: ", x, 1, 1, 0, 0, 4, 1, 1, 0);
    }

    private static void law() {
        sentence(4, "the LAW: 0 BOTH, 1 ONE, 2 TOWN (0 without; of several the last one counts)");
        for (int law = 0; law <= 999; law++) {
            fault("l" + law + ";", law <= 2 ? NONE : 0);
        }
        String town = TWO + knot(0, 1, 0, 0, 0);
        due("without", laid(town).count(8), 0);
        for (int law = 0; law <= 2; law++) {
            due("behind", laid(town + "l" + law + ";").count(8), law);
            due("ahead", laid("l" + law + ";" + town).count(8), law);
            due("of several, behind", laid(town + "l0;l1;l2;l" + law + ";").count(8), law);
            due("of several, ahead and behind", laid("l2;" + town + "l1;l" + law + ";").count(8), law);
        }
        TiedToTown x = laid(town + "l2;");
        x.wipe();
        put(x, town).lay();
        due("without, where one was", x.count(8), 0);
    }

    private static void faultPlace() {
        sentence(4, "FAULT: the place (from 0 on) of the first byte of the first ITEM that is not so");
        fault("x", 0);
        fault("p1;x", 3);
        fault("p2;p2;", 0);
        fault("p1;p2;l3;", 3);
        fault("p001;l002;p3;x", 10);
        fault(TWO + knot(0, 1, 0, 10, 0) + knot(0, 1, 2, 0, 0) + "p9;", 18);
        fault("p1;".repeat(7) + "l3;", 18);
        fault("l3;" + "p1;".repeat(7), 0);
        fault("p1;p1", 3);
        fault("p1;p", 3);
    }

    private static void fault() {
        sentence(4, "FAULT. NONE.");
        fault("", NONE);
        fault("p1;", NONE);
        fault("l2;", NONE);
        fault(FIRST, NONE);
        TiedToTown x = put(new TiedToTown(), "p0;p0;" + knot(0, 1, 0, 9, 3));
        due("fault()", x.fault(), NONE);
        due("fault() once more", x.fault(), NONE);
        due("nothing is LAID by it", x.count(1), 2);
        due("nobody died of it", x.person(0, 0), 1);
        put(x, "q");
        due("fault()", x.fault(), 17);
        due("fault() once more", x.fault(), 17);
    }

    private static void laidOrNo() {
        sentence(5, "LAID is a TEXT without FAULT, of a KNOT at least (NO else;");
        String[] not = {"", "p1;", TWO, "l2;", TWO + "l1;", TWO + knot(0, 1, 0, 0, 0) + "x", TWO + "k0,1,0,0,0",
            TWO + knot(0, 1, 0, 0, 0) + "p2;", "p1;".repeat(7) + knot(0, 1, 0, 0, 0), EIGHT + knot(0, 1, 0, 0, 0)};
        for (String text : not) {
            due("lay() of " + text, busy(text).lay(), NO);
            TiedToTown x = busy(text);
            x.lay();
            sameWhole("NO: ", x, busy(text));
        }
        due("lay() of one", put(new TiedToTown(), TWO + knot(0, 1, 0, 0, 0)).lay(), 1);
        due("lay() of one ahead of PERSONS", put(new TiedToTown(), TWO + knot(0, 1, 0, 0, 0) + "p0;").lay(), 1);
        due("lay() of eight", put(new TiedToTown(), EIGHT).lay(), 8);
        due("lay() of seven", put(new TiedToTown(), EIGHT.substring(0, EIGHT.length() - 11)).lay(), 7);
    }

    /** A town with something of all that a call can change, and this TEXT. */
    private static TiedToTown busy(String text) {
        TiedToTown x = new TiedToTown();
        x.tie(0, 2, 3, 20, 1);
        x.keep();
        x.days(3);
        x.undo(2);
        x.tell(1);
        x.tell(0);
        rope(x, 0, 1, 2, 2);
        rope(x, 1, 5);
        return put(x, text);
    }

    private static void layEmpties() {
        sentence(5, "how many KNOTS; no told row, no crossings, nothing TAKEN BACK, KEPT (THE TEXT stays). NO.");
        String text = TWO + knot(0, 1, 0, 2, 1) + "l1;";
        TiedToTown x = busy(text);
        due("lay()", x.lay(), 1);
        counts("laid: ", x, 2, 1, 1, 0, 0, 0, 0, text.length(), 1);
        due("takeBack()", x.takeBack(), NO);
        due("back()", x.back(), NO);
        due("judge()", x.judge(), NONE);
        due("noRow()", x.noRow(), 0);
        for (int rope = 0; rope < 2; rope++) {
            due("loose(" + rope + ", -1)", x.loose(rope, -1), 0);
            due("loose(" + rope + ", 0)", x.loose(rope, 0), NONE);
            due("mark(" + rope + ", 1)", x.mark(rope, 1), 100);
            due("smooth(" + rope + ")", x.smooth(rope), 0);
        }
        due("lay() of the same TEXT", x.lay(), 1);
        sameWhole("as on a new object: ", busyLaid(text), laid(text));
        TiedToTown fewer = laid("p1;".repeat(6) + "l2;" + EIGHT.substring(6));
        fewer.wipe();
        put(fewer, "p0;p1;" + knot(0, 1, 0, 0, 0));
        due("lay() of fewer", fewer.lay(), 1);
        sameWhole("nothing of what was LAID ahead of it: ", fewer, laid("p0;p1;" + knot(0, 1, 0, 0, 0)));
        TiedToTown y = laid(TWO + knot(0, 1, 0, 0, 0));
        put(y, knot(0, 1, 1, 0, 0));
        due("lay() of more", y.lay(), 2);
        due("THE TEXT stays", y.wipe(), 28);
    }

    private static TiedToTown busyLaid(String text) {
        TiedToTown x = busy(text);
        x.lay();
        return x;
    }

    private static void tiedAtFirst() {
        sentence(5, "All KNOTS are TIED at first, on day 0.");
        String deadAndAlive = people(0, 1) + knot(0, 1, 0, 9, 3) + knot(0, 1, 1, 0, 2);
        TiedToTown x = laid(deadAndAlive);
        due("count(2)", x.count(2), 2);
        due("count(3)", x.count(3), 0);
        x.days(99);
        x.cut(0);
        due("lay()", x.lay(), 2);
        due("count(2), once more", x.count(2), 2);
        due("count(3), once more", x.count(3), 0);
        due("knot(0, 5)", x.knot(0, 5), 1);
        due("knot(1, 5)", x.knot(1, 5), 1);
    }

    private static void knotNumbers() {
        sentence(6, "A (what = 0), B (1), THROUGH as bits (2), D (3), KIND (4), 1 if it is TIED (5), ABOVE as bits (6). BAD.");
        TiedToTown x = new TiedToTown();
        for (int far : new int[] {-1, 7, 8, 31, 32, MIN, MAX}) {
            due("knot(0, " + far + ")", x.knot(0, far), BAD);
        }
        for (int far : new int[] {-1, 2, 3, 7, 8, 31, 32, MIN, MAX}) {
            for (int what = -1; what <= 7; what++) {
                due("knot(" + far + ", " + what + ")", x.knot(far, what), BAD);
            }
        }
        x.keep();
        due("tie", x.tie(2, 0, 3, 99, 3), 2);
        knotIs("TIED: ", x, 2, 2, 0, 3, 99, 3, 1, 0);
        due("knot(3, 0)", x.knot(3, 0), BAD);
        x.cut(2);
        knotIs("UNDONE, as told: ", x, 2, 2, 0, 3, 99, 3, 0, 0);
        x.takeBack();
        x.takeBack();
        due("knot(2, 0), TAKEN BACK", x.knot(2, 0), BAD);
        x.tie(0, 1, 0, 1, 1);
        knotIs("another for it: ", x, 2, 0, 1, 0, 1, 1, 1, 0);
        x.back();
        due("knot(2, 0) ahead of it", x.knot(2, 0), BAD);
        due("knot(7, 6) of eight", laid(EIGHT).knot(7, 6), 0);
        due("knot(8, 6) of eight", laid(EIGHT).knot(8, 6), BAD);
    }

    private static void knotAbove() {
        sentence(6, "ABOVE a KNOT are all TIED ones that are THROUGH it, or THROUGH one that is ABOVE it.");
        StringBuilder chain = new StringBuilder(TWO);
        for (int k = 0; k < 8; k++) {
            chain.append(knot(0, 1, k == 0 ? 0 : 1 << (k - 1), 0, 0));
        }
        TiedToTown x = laid(chain.toString());
        for (int k = 0; k < 8; k++) {
            due("a chain: knot(" + k + ", 6)", x.knot(k, 6), 256 - (2 << k));
        }
        x.undo(7);
        due("knot(0, 6) without the last", x.knot(0, 6), 126);
        due("knot(6, 6) without the last", x.knot(6, 6), 0);
        x.cut(3);
        due("knot(0, 6) without 3 and all ABOVE", x.knot(0, 6), 6);
        due("knot(3, 6), itself UNDONE", x.knot(3, 6), 0);
        TiedToTown y = laid(TWO + knot(0, 1, 0, 0, 0) + knot(0, 1, 0, 0, 0) + knot(0, 1, 1, 0, 0) + knot(0, 1, 2, 0, 0)
            + knot(0, 1, 12, 0, 0));
        int[] above = {20, 24, 16, 16, 0};
        for (int k = 0; k < 5; k++) {
            due("a meeting: knot(" + k + ", 6)", y.knot(k, 6), above[k]);
        }
    }

    private static void person() {
        sentence(7, "1 if he is alive (what = 0), his TIED KNOTS as bits (1). BAD.");
        TiedToTown x = laid(people(1, 0, 1) + knot(0, 1, 0, 0, 0) + knot(1, 0, 0, 0, 0));
        due("person(0, 0)", x.person(0, 0), 1);
        due("person(1, 0)", x.person(1, 0), 0);
        due("person(0, 1)", x.person(0, 1), 3);
        due("person(1, 1)", x.person(1, 1), 3);
        due("without a KNOT", x.person(2, 1), 0);
        for (int far : new int[] {-1, 2, 3, 31, 32, MIN, MAX}) {
            due("person(0, " + far + ")", x.person(0, far), BAD);
        }
        for (int far : new int[] {-1, 3, 5, 6, 31, 32, MIN, MAX}) {
            due("person(" + far + ", 0)", x.person(far, 0), BAD);
            due("person(" + far + ", 1)", x.person(far, 1), BAD);
        }
        x.cut(1);
        due("one is TIED still", x.person(0, 1), 1);
        x.cut(0);
        due("none is TIED", x.person(0, 1), 0);
        due("who is dead stays so", x.person(1, 0), 0);
        due("all eight", laid(EIGHT).person(1, 1), 255);
        TiedToTown six = laid("p0;".repeat(5) + "p1;" + knot(4, 5, 0, 0, 0));
        due("person(5, 0) of six", six.person(5, 0), 1);
        due("person(5, 1) of six", six.person(5, 1), 1);
        due("person(6, 0) of six", six.person(6, 0), BAD);
    }
}
