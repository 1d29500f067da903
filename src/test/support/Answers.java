import java.nio.charset.StandardCharsets;
import java.nio.file.Files;
import java.nio.file.Path;
import java.util.TreeSet;

/** What the tests share: asking, counting what is wrong, laying towns, holding two objects side by side. */
abstract class Answers {
    static final int BAD = TiedToTown.BAD, NO = TiedToTown.NO, FULL = TiedToTown.FULL, NONE = TiedToTown.NONE;
    static final int MIN = Integer.MIN_VALUE, MAX = Integer.MAX_VALUE;
    static final String FIRST = "p1;p1;p1;k0,1,0,5,0;k1,2,1,9,0;";
    private static final Path DOCUMENT = Path.of("../shared/DOC.md");

    private static final TreeSet<Integer> promises = new TreeSet<>();
    private static String document;
    private static String words = "";
    private static int sentences = 0;
    private static int askedOfIt = 1;
    private static int asked = 0;
    private static int wrong = 0;

    static void due(String call, int got, int want) {
        asked++;
        askedOfIt++;
        if (got != want) {
            fail(call + " answered " + got + ", due is " + want);
        }
    }

    static void fail(String what) {
        wrong++;
        System.out.println(words.isEmpty() ? what : what + " [" + words + "]");
    }

    /** What is asked from here on is taken from these words of the document. */
    static void sentence(int promise, String told) {
        endSentence();
        askedOfIt = 0;
        sentences++;
        promises.add(promise);
        words = promise + ": " + told;
        if (!document().contains(plain(told))) {
            fail("the document does not say this");
        }
    }

    private static void endSentence() {
        if (askedOfIt == 0) {
            fail("nothing was asked");
        }
    }

    static String document() {
        if (document == null) {
            document = plain(readDocument());
        }
        return document;
    }

    private static String readDocument() {
        try {
            return Files.readString(DOCUMENT, StandardCharsets.UTF_8);
        } catch (java.io.IOException e) {
            fail(DOCUMENT + " can not be read");
            return "";
        }
    }

    static String plain(String s) {
        return s.replaceAll("\\s+", " ");
    }

    /** Each promise from the one to the other had a sentence. */
    static void mustHaveAsked(int from, int to) {
        for (int promise = from; promise <= to; promise++) {
            if (!promises.contains(promise)) {
                fail("no sentence of promise " + promise);
            }
        }
    }

    static void end() {
        endSentence();
        System.out.println((sentences == 0 ? "" : sentences + " sentences, ") + asked + " answers asked, " + wrong + " wrong");
        if (wrong != 0) {
            System.exit(1);
        }
    }

    /** The text's bytes, the highest first. */
    static long bytes(String text) {
        long v = 0;
        for (int i = 0; i < text.length(); i++) {
            v = v << 8 | text.charAt(i) & 255;
        }
        return v;
    }

    /** Writes a text in pieces of eight bytes. */
    static TiedToTown put(TiedToTown x, String text) {
        for (int from = 0; from < text.length(); from += 8) {
            String piece = text.substring(from, Math.min(text.length(), from + 8));
            x.write(piece.length(), bytes(piece));
        }
        return x;
    }

    static TiedToTown laid(String text) {
        TiedToTown x = put(new TiedToTown(), text);
        if (x.lay() < 1) {
            fail("could not lay " + text);
        }
        return x;
    }

    static int faultOf(String text) {
        return put(new TiedToTown(), text).fault();
    }

    static void fault(String text, int want) {
        due("fault() of " + text, faultOf(text), want);
    }

    /** How many are alive (1) or dead (0), as items. */
    static String people(int... lives) {
        StringBuilder s = new StringBuilder();
        for (int life : lives) {
            s.append('p').append(life).append(';');
        }
        return s.toString();
    }

    static String knot(int a, int b, int s, int d, int kind) {
        return "k" + a + "," + b + "," + s + "," + d + "," + kind + ";";
    }

    static void rope(TiedToTown x, int rope, int... crossings) {
        x.smooth(rope);
        for (int c : crossings) {
            x.cross(rope, c);
        }
    }

    static void counts(String when, TiedToTown x, int... wants) {
        for (int what = 0; what < wants.length; what++) {
            due(when + "count(" + what + ")", x.count(what), wants[what]);
        }
    }

    static void knotIs(String when, TiedToTown x, int k, int... wants) {
        for (int what = 0; what < wants.length; what++) {
            due(when + "knot(" + k + ", " + what + ")", x.knot(k, what), wants[what]);
        }
    }

    /** All that can be asked without a change answers the same of both. */
    static void sameNow(String when, TiedToTown x, TiedToTown y) {
        for (int what = 0; what < 9; what++) {
            due(when + "count(" + what + ")", x.count(what), y.count(what));
        }
        due(when + "fault()", x.fault(), y.fault());
        due(when + "judge()", x.judge(), y.judge());
        due(when + "alike()", x.alike(), y.alike());
        due(when + "orders()", x.orders(), y.orders());
        due(when + "forEver()", x.forEver(), y.forEver());
        due(when + "year(7, 9, 0)", x.year(7, 9, 0), y.year(7, 9, 0));
        due(when + "pay(0)", x.pay(0), y.pay(0));
        for (int k = 0; k < 8; k++) {
            due(when + "may(" + k + ")", x.may(k), y.may(k));
            for (int what = 0; what < 7; what++) {
                due(when + "knot(" + k + ", " + what + ")", x.knot(k, what), y.knot(k, what));
            }
        }
        for (int i = 0; i < 6; i++) {
            due(when + "person(" + i + ", 0)", x.person(i, 0), y.person(i, 0));
            due(when + "person(" + i + ", 1)", x.person(i, 1), y.person(i, 1));
        }
        for (int rope = 0; rope < 2; rope++) {
            for (int i = -1; i < 16; i++) {
                due(when + "loose(" + rope + ", " + i + ")", x.loose(rope, i), y.loose(rope, i));
            }
        }
    }

    /** As sameNow, and of what only calls that change show, too: both are used up by it. */
    static void sameWhole(String when, TiedToTown x, TiedToTown y) {
        sameNow(when, x, y);
        for (int k = 0; k < 8; k++) {
            due(when + "tell(" + k + ")", x.tell(k), y.tell(k));
        }
        due(when + "noRow()", x.noRow(), y.noRow());
        due(when + "smooth(0)", x.smooth(0), y.smooth(0));
        due(when + "smooth(1)", x.smooth(1), y.smooth(1));
        int taken = y.count(5);
        for (int i = 0; i <= taken; i++) {
            due(when + "takeBack()", x.takeBack(), y.takeBack());
            shortState(when + "TAKEN BACK: ", x, y);
        }
        for (int i = 0; i < 3; i++) {
            due(when + "back()", x.back(), y.back());
            shortState(when + "back: ", x, y);
        }
        due(when + "lay()", x.lay(), y.lay());
        shortState(when + "laid: ", x, y);
        due(when + "wipe()", x.wipe(), y.wipe());
    }

    private static void shortState(String when, TiedToTown x, TiedToTown y) {
        due(when + "count(1)", x.count(1), y.count(1));
        due(when + "count(3)", x.count(3), y.count(3));
        for (int k = 0; k < 8; k++) {
            due(when + "knot(" + k + ", 5)", x.knot(k, 5), y.knot(k, 5));
            due(when + "knot(" + k + ", 2)", x.knot(k, 2), y.knot(k, 2));
        }
    }
}
