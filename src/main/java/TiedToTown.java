/**
 * Promises as knots, tied by two people of a town in one rope: what ../shared/DOC.md tells, in its words.
 * All rows are made with the object, since nothing that a call makes is ever given back.
 */
public final class TiedToTown {
    public static final int BAD = -1, NO = -2, FULL = -3, NONE = -4;

    private static final int MOST_BYTES = 300;
    private static final int MOST_PERSONS = 6;
    private static final int MOST_KNOTS = 8;
    private static final int MOST_BACK = 8;
    private static final int MOST_KEPT = 2;
    private static final int MOST_CROSSINGS = 16;
    private static final int MOST_NUMBERS = 5;
    private static final int MOST_FIGURES = 3;
    private static final int STRANDS = 4;
    private static final int LAST_DAY = 99;
    private static final int LAST_DRAW = 9999;
    private static final int LONGEST_YEAR = 60;

    private static final int BOTH = 0, ONE = 1, TOWN = 2;
    private static final int PLAIN = 0, SLIP = 1, TIGHT = 2, SEALED = 3;

    private final Text text;
    private final Reader reader;
    private final Town town;
    private final Town told;
    private final Town keptFirst;
    private final Town keptSecond;
    private int kept;
    private final Past past;
    private final Outlook outlook;
    private final Row row;
    private final Rope leftRope;
    private final Rope rightRope;

    public TiedToTown() {
        text = new Text();
        reader = new Reader();
        town = new Town();
        told = new Town();
        keptFirst = new Town();
        keptSecond = new Town();
        kept = 0;
        past = new Past();
        outlook = new Outlook(town);
        row = new Row();
        leftRope = new Rope();
        rightRope = new Rope();
        town.addPerson(1);
        town.addPerson(1);
        town.addPerson(1);
        town.addKnot(0, 1, 0, 5, PLAIN);
        town.addKnot(1, 2, 1, 9, PLAIN);
    }

    // ---- towns

    public int write(int n, long v) {
        if (n < 1 || n > 8) {
            return BAD;
        }
        if (text.size() + n > MOST_BYTES) {
            return FULL;
        }
        for (int i = n - 1; i >= 0; i--) {
            text.append((int) (v >>> (8 * i)) & 255);
        }
        return text.size();
    }

    public int wipe() {
        int had = text.size();
        text.empty();
        return had;
    }

    public int fault() {
        return reader.read(text, told);
    }

    public int lay() {
        if (reader.read(text, told) != NONE || told.knots < 1) {
            return NO;
        }
        town.copy(told);
        row.empty();
        leftRope.empty();
        rightRope.empty();
        past.empty();
        kept = 0;
        return town.knots;
    }

    public int knot(int k, int what) {
        if (!town.isKnot(k) || what < 0 || what > 6) {
            return BAD;
        }
        switch (what) {
            case 0:
                return town.first[k];
            case 1:
                return town.second[k];
            case 2:
                return town.through[k];
            case 3:
                return town.due[k];
            case 4:
                return town.kind[k];
            case 5:
                return asNumber(has(town.tied, k));
            default:
                return town.above(k);
        }
    }

    public int person(int i, int what) {
        if (!town.isPerson(i) || what < 0 || what > 1) {
            return BAD;
        }
        return what == 0 ? asNumber(has(town.alive, i)) : town.ofPerson(i);
    }

    // ---- knots

    public int may(int k) {
        if (!town.isKnot(k)) {
            return BAD;
        }
        return asNumber(town.mayToday(k, town.tied));
    }

    public int undo(int k) {
        if (!town.isKnot(k)) {
            return BAD;
        }
        if (!town.mayToday(k, town.tied)) {
            return NO;
        }
        removeTied(bit(k));
        return Integer.bitCount(town.tied);
    }

    public int tie(int a, int b, int s, int d, int kind) {
        if (!town.suits(a, b, s, d, kind)) {
            return BAD;
        }
        if (!isWithin(bit(a) | bit(b), town.alive) || !isWithin(s, town.tied)) {
            return NO;
        }
        if (town.knots >= MOST_KNOTS) {
            return FULL;
        }
        past.note(town);
        row.empty();
        town.addKnot(a, b, s, d, kind);
        return town.knots - 1;
    }

    public int pull(int k) {
        if (!town.isKnot(k)) {
            return BAD;
        }
        int coming = bit(k) | town.above(k);
        if (!has(town.tied, k) || !isWithin(coming, town.ofKind(SLIP))) {
            return NO;
        }
        return removeTied(coming);
    }

    public int cut(int k) {
        if (!town.isKnot(k)) {
            return BAD;
        }
        if (!has(town.tied, k)) {
            return NO;
        }
        return removeTied(bit(k) | town.above(k));
    }

    public int days(int n) {
        if (n < 1 || n > LAST_DAY) {
            return BAD;
        }
        if (town.day + n > LAST_DAY) {
            return NO;
        }
        past.note(town);
        town.day += n;
        return town.day;
    }

    public int takeBack() {
        if (past.size() == 0) {
            return NO;
        }
        past.restore(town);
        row.empty();
        return past.size();
    }

    private int removeTied(int set) {
        past.note(town);
        town.tied &= ~set;
        return Integer.bitCount(set);
    }

    // ---- what has to be

    public int loosen(int k) {
        if (!town.isKnot(k)) {
            return BAD;
        }
        if (!has(town.tied, k)) {
            return NO;
        }
        return has(outlook.stuckToday(), k) ? NONE : outlook.withAhead(bit(k)) & ~bit(k);
    }

    public int pay(int i) {
        if (i < -1) {
            return BAD;
        }
        int due = town.dueToday();
        if ((due & outlook.stuckToday()) != 0) {
            return NONE;
        }
        int all = outlook.withAhead(due);
        return i == -1 ? Integer.bitCount(all) : outlook.inTurn(all, i);
    }

    public int forEver() {
        return outlook.stuckForEver(town.alive);
    }

    public int frees(int i) {
        if (!town.isPerson(i)) {
            return BAD;
        }
        int asItIs = outlook.stuckForEver(town.alive);
        int wereHeAlive = outlook.stuckForEver(town.alive | bit(i));
        return Integer.bitCount(asItIs) - Integer.bitCount(wereHeAlive);
    }

    public int fresh(int m, int f, int what) {
        if (m < 1 || m > MOST_KNOTS || !town.isSet(f) || what < 0 || what > 1) {
            return BAD;
        }
        int best = outlook.shortest(m, town.tied & ~outlook.withAbove(f));
        if (best == 0) {
            return NONE;
        }
        return what == 0 ? best : ropeOf(best);
    }

    public int orders() {
        return outlook.tyingOrders();
    }

    public int tell(int k) {
        if (!town.isKnot(k)) {
            return BAD;
        }
        if (row.holds(k)) {
            return NO;
        }
        row.append(k);
        return row.size();
    }

    public int noRow() {
        int had = row.size();
        row.empty();
        return had;
    }

    public int judge() {
        return row.firstWrong(town);
    }

    // ---- ropes

    public int cross(int rope, int c) {
        if (!isRope(rope) || c < 0 || c >= 2 * STRANDS) {
            return BAD;
        }
        Rope it = ropeAt(rope);
        if (it.size() >= MOST_CROSSINGS) {
            return FULL;
        }
        it.append(c);
        return it.size();
    }

    public int smooth(int rope) {
        if (!isRope(rope)) {
            return BAD;
        }
        Rope it = ropeAt(rope);
        int had = it.size();
        it.empty();
        return had;
    }

    public int loose(int rope, int i) {
        if (!isRope(rope) || i < -1) {
            return BAD;
        }
        Rope it = ropeAt(rope);
        return i == -1 ? it.loosenedSize() : it.loosenedAt(i);
    }

    public int alike() {
        if (leftRope.isSame(rightRope)) {
            return 2;
        }
        return asNumber(leftRope.isTurned(rightRope));
    }

    public int mark(int rope, int strand) {
        if (!isRope(rope) || strand < 0 || strand >= STRANDS) {
            return BAD;
        }
        return 100 + ropeAt(rope).markOf(strand);
    }

    public int year(int z, int n, int what) {
        if (z < 0 || z > LAST_DRAW || n < 1 || n > LONGEST_YEAR || what < 0 || what > 1) {
            return BAD;
        }
        int now = town.tied;
        int done = 0;
        for (int t = 0; t < n; t++) {
            int then = outlook.turned(outlook.drawn(z, t), now);
            if (then != now) {
                done++;
            }
            now = then;
        }
        return what == 0 ? now : done;
    }

    public int keep() {
        if (kept >= MOST_KEPT) {
            return FULL;
        }
        keptAt(kept).copy(town);
        kept++;
        return kept;
    }

    public int back() {
        if (kept < 1) {
            return NO;
        }
        kept--;
        town.copy(keptAt(kept));
        past.empty();
        row.empty();
        return kept;
    }

    public int count(int what) {
        switch (what) {
            case 0:
                return town.persons;
            case 1:
                return town.knots;
            case 2:
                return Integer.bitCount(town.tied);
            case 3:
                return town.day;
            case 4:
                return row.size();
            case 5:
                return past.size();
            case 6:
                return kept;
            case 7:
                return text.size();
            case 8:
                return town.law;
            default:
                return BAD;
        }
    }

    private Town keptAt(int i) {
        return i == 0 ? keptFirst : keptSecond;
    }

    private Rope ropeAt(int rope) {
        return rope == 0 ? leftRope : rightRope;
    }

    private static boolean isRope(int rope) {
        return rope == 0 || rope == 1;
    }

    private static int asNumber(boolean so) {
        return so ? 1 : 0;
    }

    private static int bit(int k) {
        return 1 << k;
    }

    private static boolean has(int set, int k) {
        return (set >> k & 1) != 0;
    }

    private static boolean isWithin(int set, int whole) {
        return (set & ~whole) == 0;
    }

    /** The highest number of a set less its lowest one. */
    private static int ropeOf(int set) {
        int lowest = MOST_KNOTS;
        int highest = MOST_KNOTS;
        for (int k = 0; k < MOST_KNOTS; k++) {
            if (has(set, k)) {
                lowest = Math.min(lowest, k);
                highest = k;
            }
        }
        return highest - lowest;
    }

    /** THE TEXT: its bytes. */
    private static final class Text {
        private final int[] bytes = new int[MOST_BYTES];
        private int size;

        int size() {
            return size;
        }

        void empty() {
            size = 0;
        }

        void append(int value) {
            if (size < bytes.length) {
                bytes[size] = value;
                size++;
            }
        }

        /** Behind the last byte stands one that fits nowhere, so that a cut item ends as a wrong one does. */
        int at(int place) {
            return place >= 0 && place < size && place < bytes.length ? bytes[place] : -1;
        }
    }

    /** Reads THE TEXT, item by item, into a town. */
    private static final class Reader {
        private final int[] numbers = new int[MOST_NUMBERS];

        /** FAULT, or NONE; the town is what the items ahead of FAULT tell. */
        int read(Text text, Town into) {
            into.empty();
            int place = 0;
            for (int item = 0; item < MOST_BYTES && place < text.size(); item++) {
                int letter = text.at(place);
                int next = readNumbers(text, place + 1, numbersOf(letter));
                if (next == NONE || !takeItem(letter, into)) {
                    return place;
                }
                place = next;
            }
            return NONE;
        }

        private static int numbersOf(int letter) {
            if (letter == 'k') {
                return MOST_NUMBERS;
            }
            return letter == 'p' || letter == 'l' ? 1 : 0;
        }

        /** The place behind the ; of the item, or NONE. */
        private int readNumbers(Text text, int place, int wanted) {
            if (wanted < 1) {
                return NONE;
            }
            int at = place;
            for (int i = 0; i < wanted && i < numbers.length; i++) {
                int end = figuresEnd(text, at);
                int sign = i == wanted - 1 ? ';' : ',';
                if (end == at || text.at(end) != sign) {
                    return NONE;
                }
                numbers[i] = valueOf(text, at, end);
                at = end + 1;
            }
            return at;
        }

        private static int figuresEnd(Text text, int place) {
            int end = place;
            while (end < place + MOST_FIGURES && text.at(end) >= '0' && text.at(end) <= '9') {
                end++;
            }
            return end;
        }

        private static int valueOf(Text text, int place, int end) {
            int value = 0;
            for (int i = place; i < end; i++) {
                value = 10 * value + text.at(i) - '0';
            }
            return value;
        }

        private boolean takeItem(int letter, Town into) {
            if (letter == 'p') {
                return into.addPerson(numbers[0]);
            }
            if (letter == 'l') {
                return into.setLaw(numbers[0]);
            }
            return into.addKnot(numbers[0], numbers[1], numbers[2], numbers[3], numbers[4]);
        }
    }

    /** The people, their law, the knots and the day: what can be KEPT. */
    private static final class Town {
        private final int[] first = new int[MOST_KNOTS];
        private final int[] second = new int[MOST_KNOTS];
        private final int[] people = new int[MOST_KNOTS];
        private final int[] through = new int[MOST_KNOTS];
        private final int[] due = new int[MOST_KNOTS];
        private final int[] kind = new int[MOST_KNOTS];
        private int persons;
        private int alive;
        private int law;
        private int knots;
        private int tied;
        private int day;

        void empty() {
            persons = 0;
            alive = 0;
            law = BOTH;
            knots = 0;
            tied = 0;
            day = 0;
        }

        void copy(Town other) {
            for (int k = 0; k < MOST_KNOTS; k++) {
                first[k] = other.first[k];
                second[k] = other.second[k];
                people[k] = other.people[k];
                through[k] = other.through[k];
                due[k] = other.due[k];
                kind[k] = other.kind[k];
            }
            persons = other.persons;
            alive = other.alive;
            law = other.law;
            knots = other.knots;
            tied = other.tied;
            day = other.day;
        }

        boolean isPerson(int i) {
            return i >= 0 && i < persons;
        }

        boolean isKnot(int k) {
            return k >= 0 && k < knots && k < MOST_KNOTS;
        }

        boolean isSet(int set) {
            return set >= 0 && set < bit(knots);
        }

        boolean addPerson(int life) {
            if (life < 0 || life > 1 || persons >= MOST_PERSONS) {
                return false;
            }
            alive |= life << persons;
            persons++;
            return true;
        }

        boolean setLaw(int number) {
            if (number < BOTH || number > TOWN) {
                return false;
            }
            law = number;
            return true;
        }

        /** Whether a new knot can be told so, but for how many there are. */
        boolean suits(int a, int b, int s, int d, int type) {
            return isPerson(a) && isPerson(b) && a != b && isSet(s)
                && d >= 0 && d <= LAST_DAY && type >= PLAIN && type <= SEALED;
        }

        boolean addKnot(int a, int b, int s, int d, int type) {
            if (knots >= MOST_KNOTS || !suits(a, b, s, d, type)) {
                return false;
            }
            first[knots] = a;
            second[knots] = b;
            people[knots] = bit(a) | bit(b);
            through[knots] = s;
            due[knots] = d;
            kind[knots] = type;
            tied |= bit(knots);
            knots++;
            return true;
        }

        int ofKind(int type) {
            int set = 0;
            for (int k = 0; k < MOST_KNOTS; k++) {
                if (k < knots && kind[k] == type) {
                    set |= bit(k);
                }
            }
            return set;
        }

        int ofPerson(int i) {
            int set = 0;
            for (int k = 0; k < MOST_KNOTS; k++) {
                if (has(tied, k) && has(people[k], i)) {
                    set |= bit(k);
                }
            }
            return set;
        }

        int dueToday() {
            int set = 0;
            for (int k = 0; k < MOST_KNOTS; k++) {
                if (has(tied, k) && due[k] <= day) {
                    set |= bit(k);
                }
            }
            return set;
        }

        /** One way up is enough: a knot goes through lower numbers alone. */
        int above(int k) {
            int set = 0;
            for (int j = 0; j < MOST_KNOTS; j++) {
                if (has(tied, j) && (through[j] & (set | bit(k))) != 0) {
                    set |= bit(j);
                }
            }
            return set;
        }

        /** The TIED ones that have to be gone before k can be undone. */
        int inTheWay(int k, int tiedThen) {
            if (!isKnot(k)) {
                return 0;
            }
            int set = 0;
            for (int j = 0; j < MOST_KNOTS; j++) {
                boolean stops = has(through[j], k) || kind[k] == SEALED && (people[j] & people[k]) != 0;
                if (j != k && has(tiedThen, j) && stops) {
                    set |= bit(j);
                }
            }
            return set;
        }

        boolean mayToday(int k, int tiedThen) {
            return mayBe(k, tiedThen, day, alive);
        }

        /** Whether k MAY be undone, were these TIED, this the day and these alive. */
        boolean mayBe(int k, int tiedThen, int today, int living) {
            return isKnot(k) && has(tiedThen, k) && isLawful(people[k], living)
                && (kind[k] != TIGHT || due[k] <= today) && inTheWay(k, tiedThen) == 0;
        }

        private boolean isLawful(int both, int living) {
            return law == TOWN || isWithin(both, living) || law == ONE && (both & living) != 0;
        }
    }

    /** What could be done in a town, without doing it. */
    private static final class Outlook {
        private final Town town;
        private final int[] ways = new int[1 << MOST_KNOTS];

        Outlook(Town town) {
            this.town = town;
        }

        int stuckToday() {
            return stuck(town.day, town.alive);
        }

        int stuckForEver(int living) {
            return stuck(LAST_DAY, living);
        }

        /** What stays when all is undone that can be: undoing one never stops another, so the turn is free. */
        private int stuck(int today, int living) {
            int left = town.tied;
            int before = 0;
            for (int round = 0; round < MOST_KNOTS && left != before; round++) {
                before = left;
                for (int k = MOST_KNOTS - 1; k >= 0; k--) {
                    if (town.mayBe(k, left, today, living)) {
                        left &= ~bit(k);
                    }
                }
            }
            return left;
        }

        /** These and all that have to be undone ahead of one of them. */
        int withAhead(int set) {
            int all = set;
            int before = 0;
            for (int round = 0; round < MOST_KNOTS && all != before; round++) {
                before = all;
                for (int k = 0; k < MOST_KNOTS; k++) {
                    if (has(all, k)) {
                        all |= town.inTheWay(k, town.tied);
                    }
                }
            }
            return all;
        }

        int withAbove(int set) {
            int all = set;
            for (int k = 0; k < MOST_KNOTS; k++) {
                if (has(set, k)) {
                    all |= town.above(k);
                }
            }
            return all;
        }

        /** The i-th, when always the lowest of all that MAY be is undone; NONE behind the last one. */
        int inTurn(int all, int i) {
            int left = town.tied;
            for (int place = 0; place < MOST_KNOTS; place++) {
                int k = lowestThatMay(all & left, left);
                if (k == NONE || place == i) {
                    return k;
                }
                left &= ~bit(k);
            }
            return NONE;
        }

        private int lowestThatMay(int set, int left) {
            for (int k = 0; k < MOST_KNOTS; k++) {
                if (has(set, k) && town.mayToday(k, left)) {
                    return k;
                }
            }
            return NONE;
        }

        /** The m of these with the shortest rope, the lowest such; 0 if there are not so many. */
        int shortest(int m, int free) {
            int best = 0;
            for (int set = 1; set < ways.length; set++) {
                boolean counts = Integer.bitCount(set) == m && isWithin(set, free);
                if (counts && (best == 0 || ropeOf(set) < ropeOf(best))) {
                    best = set;
                }
            }
            return best;
        }

        /** For every set, in how many orders it can have been tied first; none, if one in it lacks a lower one. */
        int tyingOrders() {
            ways[0] = 1;
            for (int set = 1; set < ways.length; set++) {
                ways[set] = isWithin(set, town.tied) ? waysOf(set) : 0;
            }
            return ways[town.tied & (ways.length - 1)];
        }

        private int waysOf(int set) {
            int sum = 0;
            for (int last = 0; last < MOST_KNOTS; last++) {
                if (has(set, last) && isWithin(town.through[last] & town.tied, set)) {
                    sum += ways[set & ~bit(last) & (ways.length - 1)];
                }
            }
            return sum;
        }

        int drawn(int z, int t) {
            long x = 7919L * z + 6151L * t + 1;
            return town.knots < 1 ? 0 : (int) (x * x % 65521 % town.knots);
        }

        /** What is TIED when the day of knot q in a YEAR is over. */
        int turned(int q, int tiedThen) {
            if (!town.isKnot(q)) {
                return tiedThen;
            }
            if (has(tiedThen, q)) {
                return town.mayToday(q, tiedThen) ? tiedThen & ~bit(q) : tiedThen;
            }
            boolean can = isWithin(town.people[q], town.alive) && isWithin(town.through[q], tiedThen);
            return can ? tiedThen | bit(q) : tiedThen;
        }
    }

    /** What a town was ahead of the last changes; knots are only added, so how many there were is enough of them. */
    private static final class Past {
        private final int[] knots = new int[MOST_BACK];
        private final int[] tied = new int[MOST_BACK];
        private final int[] day = new int[MOST_BACK];
        private int size;

        int size() {
            return size;
        }

        void empty() {
            size = 0;
        }

        void note(Town town) {
            if (size >= MOST_BACK) {
                forgetOldest();
            }
            knots[size] = town.knots;
            tied[size] = town.tied;
            day[size] = town.day;
            size++;
        }

        private void forgetOldest() {
            for (int i = 1; i < MOST_BACK; i++) {
                knots[i - 1] = knots[i];
                tied[i - 1] = tied[i];
                day[i - 1] = day[i];
            }
            size = MOST_BACK - 1;
        }

        void restore(Town town) {
            if (size < 1) {
                return;
            }
            size--;
            town.knots = knots[size];
            town.tied = tied[size];
            town.day = day[size];
        }
    }

    /** The told row. */
    private static final class Row {
        private final int[] knots = new int[MOST_KNOTS];
        private int size;

        int size() {
            return size;
        }

        void empty() {
            size = 0;
        }

        void append(int k) {
            if (size < knots.length) {
                knots[size] = k;
                size++;
            }
        }

        boolean holds(int k) {
            return has(setFrom(0), k);
        }

        private int setFrom(int place) {
            int set = 0;
            for (int i = place; i < size && i < knots.length; i++) {
                set |= bit(knots[i]);
            }
            return set;
        }

        int firstWrong(Town town) {
            for (int i = 0; i < size && i < knots.length; i++) {
                int k = knots[i];
                if (town.isKnot(k) && (town.through[k] & setFrom(i + 1)) != 0) {
                    return i;
                }
            }
            return NONE;
        }
    }

    /**
     * A rope, held LOOSENED: what stays is the same in whatever turn pairs are taken out,
     * and a pair taken out is of one strand, over and under, so no mark changes.
     */
    private static final class Rope {
        private final int[] loosened = new int[MOST_CROSSINGS];
        private int left;
        private int size;

        int size() {
            return size;
        }

        int loosenedSize() {
            return left;
        }

        void empty() {
            left = 0;
            size = 0;
        }

        void append(int c) {
            size++;
            if (left > 0 && isPair(loosenedAt(left - 1), c)) {
                left--;
            } else if (left < loosened.length) {
                loosened[left] = c;
                left++;
            }
        }

        int loosenedAt(int i) {
            return i >= 0 && i < left && i < loosened.length ? loosened[i] : NONE;
        }

        private static boolean isPair(int c, int other) {
            return (c ^ other) == 1;
        }

        boolean isSame(Rope other) {
            return left == other.left && isSameTurned(other, 0, 0, 0);
        }

        /** Whether they are the same, once both are loose at their ends too and one is turned round in itself. */
        boolean isTurned(Rope other) {
            int off = endPairs();
            int otherOff = other.endPairs();
            int length = left - 2 * off;
            if (length != other.left - 2 * otherOff) {
                return false;
            }
            for (int turn = 0; turn < length; turn++) {
                if (isSameTurned(other, off, otherOff, turn)) {
                    return true;
                }
            }
            return false;
        }

        /** How many crossings come off at each end. */
        private int endPairs() {
            int off = 0;
            while (left - 2 * off >= 2 && isPair(loosenedAt(off), loosenedAt(left - 1 - off))) {
                off++;
            }
            return off;
        }

        private boolean isSameTurned(Rope other, int off, int otherOff, int turn) {
            int length = left - 2 * off;
            for (int i = 0; i < length; i++) {
                int from = i + turn < length ? i + turn : i + turn - length;
                if (loosenedAt(off + from) != other.loosenedAt(otherOff + i)) {
                    return false;
                }
            }
            return true;
        }

        int markOf(int strand) {
            int over = 0;
            for (int i = 0; i < left; i++) {
                int c = loosenedAt(i);
                if (c >> 1 == strand) {
                    over += (c & 1) == 0 ? 1 : -1;
                }
            }
            return over;
        }
    }
}
