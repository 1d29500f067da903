import java.util.ArrayDeque;
import java.util.ArrayList;
import java.util.HashMap;
import java.util.List;
import java.util.Map;
import java.util.Random;
import java.util.TreeSet;
import java.util.regex.Matcher;
import java.util.regex.Pattern;

/** Runs of drawn calls (the same ones each time) on the class and on a plain model that searches where the class reckons. */
public final class ModelTests {
    private static final int BAD = -1, NO = -2, FULL = -3, NONE = -4;
    private static final int RUNS = 6000;
    private static final int CALLS = 160;

    private static final class Knot {
        final int a, b, s, d, kind;

        Knot(int a, int b, int s, int d, int kind) {
            this.a = a;
            this.b = b;
            this.s = s;
            this.d = d;
            this.kind = kind;
        }
    }

    private static final class State {
        List<Boolean> alive = new ArrayList<>();
        List<Knot> knots = new ArrayList<>();
        TreeSet<Integer> tied = new TreeSet<>();
        int law;
        int day;

        State copied() {
            State c = new State();
            c.alive.addAll(alive);
            c.knots.addAll(knots);
            c.tied.addAll(tied);
            c.law = law;
            c.day = day;
            return c;
        }
    }

    private static final class Model {
        String text = "";
        State now = new State();
        ArrayDeque<State> past = new ArrayDeque<>();
        ArrayDeque<State> kept = new ArrayDeque<>();
        List<Integer> row = new ArrayList<>();
        List<List<Integer>> ropes = List.of(new ArrayList<>(), new ArrayList<>());

        Model() {
            read("p1;p1;p1;k0,1,0,5,0;k1,2,1,9,0;", now);
        }

        static int read(String text, State into) {
            Pattern item = Pattern.compile("([a-z])([0-9]{1,3}(?:,[0-9]{1,3})*);");
            Matcher m = item.matcher(text);
            int place = 0;
            while (place < text.length()) {
                m.region(place, text.length());
                if (!m.lookingAt() || !take(m.group(1), m.group(2).split(","), into)) {
                    return place;
                }
                place = m.end();
            }
            return NONE;
        }

        static boolean take(String letter, String[] parts, State into) {
            int[] n = new int[parts.length];
            for (int i = 0; i < n.length; i++) {
                n[i] = Integer.parseInt(parts[i]);
            }
            if (letter.equals("p") && n.length == 1 && n[0] <= 1 && into.alive.size() < 6) {
                return into.alive.add(n[0] == 1);
            }
            if (letter.equals("l") && n.length == 1 && n[0] <= 2) {
                into.law = n[0];
                return true;
            }
            if (letter.equals("k") && n.length == 5 && into.knots.size() < 8 && toldWell(into, n)) {
                into.tied.add(into.knots.size());
                return into.knots.add(new Knot(n[0], n[1], n[2], n[3], n[4]));
            }
            return false;
        }

        static boolean toldWell(State s, int... n) {
            return in(n[0], 0, s.alive.size() - 1) && in(n[1], 0, s.alive.size() - 1) && n[0] != n[1]
                && in(n[2], 0, (1 << s.knots.size()) - 1) && in(n[3], 0, 99) && in(n[4], 0, 3);
        }

        static boolean in(int n, int from, int to) {
            return n >= from && n <= to;
        }

        static int bits(Iterable<Integer> set) {
            int b = 0;
            for (int k : set) {
                b |= 1 << k;
            }
            return b;
        }

        boolean isKnot(int k) {
            return in(k, 0, now.knots.size() - 1);
        }

        boolean may(int k, TreeSet<Integer> tied, int day, List<Boolean> alive) {
            if (!tied.contains(k)) {
                return false;
            }
            Knot it = now.knots.get(k);
            for (int j : tied) {
                Knot other = now.knots.get(j);
                if ((other.s >> k & 1) == 1) {
                    return false;
                }
                if (it.kind == 3 && j != k && (other.a == it.a || other.a == it.b || other.b == it.a || other.b == it.b)) {
                    return false;
                }
            }
            if (it.kind == 2 && day < it.d) {
                return false;
            }
            int living = (alive.get(it.a) ? 1 : 0) + (alive.get(it.b) ? 1 : 0);
            return living >= (now.law == 0 ? 2 : now.law == 1 ? 1 : 0);
        }

        TreeSet<Integer> above(int k) {
            TreeSet<Integer> found = new TreeSet<>();
            boolean more = true;
            while (more) {
                more = false;
                for (int j : now.tied) {
                    int s = now.knots.get(j).s;
                    boolean through = (s >> k & 1) == 1;
                    for (int other : found) {
                        through |= (s >> other & 1) == 1;
                    }
                    more |= through && found.add(j);
                }
            }
            return found;
        }

        /** All sets of TIED KNOTS that can be come to by undoing one by one. */
        List<TreeSet<Integer>> reached(int day, List<Boolean> alive) {
            Map<Integer, Boolean> seen = new HashMap<>();
            List<TreeSet<Integer>> all = new ArrayList<>();
            all.add(new TreeSet<>(now.tied));
            seen.put(bits(now.tied), true);
            for (int i = 0; i < all.size(); i++) {
                for (int k : now.tied) {
                    TreeSet<Integer> next = new TreeSet<>(all.get(i));
                    if (may(k, all.get(i), day, alive) && next.remove(k) && seen.put(bits(next), true) == null) {
                        all.add(next);
                    }
                }
            }
            return all;
        }

        void note() {
            past.addLast(now.copied());
            if (past.size() > 8) {
                past.removeFirst();
            }
        }

        int write(int n, long v) {
            if (!in(n, 1, 8)) {
                return BAD;
            }
            if (text.length() + n > 300) {
                return FULL;
            }
            String more = "";
            for (int i = 0; i < n; i++) {
                more = (char) (v & 255) + more;
                v >>= 8;
            }
            text += more;
            return text.length();
        }

        int wipe() {
            int had = text.length();
            text = "";
            return had;
        }

        int fault() {
            return read(text, new State());
        }

        int lay() {
            State told = new State();
            if (read(text, told) != NONE || told.knots.isEmpty()) {
                return NO;
            }
            now = told;
            row.clear();
            ropes.get(0).clear();
            ropes.get(1).clear();
            past.clear();
            kept.clear();
            return now.knots.size();
        }

        int knot(int k, int what) {
            if (!isKnot(k) || !in(what, 0, 6)) {
                return BAD;
            }
            Knot it = now.knots.get(k);
            return new int[] {it.a, it.b, it.s, it.d, it.kind, now.tied.contains(k) ? 1 : 0, bits(above(k))}[what];
        }

        int person(int i, int what) {
            if (!in(i, 0, now.alive.size() - 1) || !in(what, 0, 1)) {
                return BAD;
            }
            if (what == 0) {
                return now.alive.get(i) ? 1 : 0;
            }
            int set = 0;
            for (int k : now.tied) {
                set |= now.knots.get(k).a == i || now.knots.get(k).b == i ? 1 << k : 0;
            }
            return set;
        }

        int may(int k) {
            return !isKnot(k) ? BAD : may(k, now.tied, now.day, now.alive) ? 1 : 0;
        }

        int undo(int k) {
            if (!isKnot(k)) {
                return BAD;
            }
            if (may(k) == 0) {
                return NO;
            }
            note();
            now.tied.remove(k);
            return now.tied.size();
        }

        int tie(int a, int b, int s, int d, int kind) {
            if (!toldWell(now, a, b, s, d, kind)) {
                return BAD;
            }
            if (!now.alive.get(a) || !now.alive.get(b) || (s & ~bits(now.tied)) != 0) {
                return NO;
            }
            if (now.knots.size() == 8) {
                return FULL;
            }
            note();
            row.clear();
            now.tied.add(now.knots.size());
            now.knots.add(new Knot(a, b, s, d, kind));
            return now.knots.size() - 1;
        }

        int take(int k, boolean slipAlone) {
            if (!isKnot(k)) {
                return BAD;
            }
            if (!now.tied.contains(k)) {
                return NO;
            }
            TreeSet<Integer> coming = above(k);
            coming.add(k);
            for (int j : coming) {
                if (slipAlone && now.knots.get(j).kind != 1) {
                    return NO;
                }
            }
            note();
            now.tied.removeAll(coming);
            return coming.size();
        }

        int days(int n) {
            if (!in(n, 1, 99)) {
                return BAD;
            }
            if (now.day + n > 99) {
                return NO;
            }
            note();
            now.day += n;
            return now.day;
        }

        int takeBack() {
            if (past.isEmpty()) {
                return NO;
            }
            now = past.removeLast();
            row.clear();
            return past.size();
        }

        int loosen(int k) {
            if (!isKnot(k)) {
                return BAD;
            }
            if (!now.tied.contains(k)) {
                return NO;
            }
            List<Integer> sets = new ArrayList<>();
            for (TreeSet<Integer> left : reached(now.day, now.alive)) {
                if (may(k, left, now.day, now.alive)) {
                    sets.add(bits(now.tied) & ~bits(left));
                }
            }
            return fewest(sets);
        }

        static int fewest(List<Integer> sets) {
            int best = NONE;
            for (int set : sets) {
                if (best == NONE || Integer.bitCount(set) < Integer.bitCount(best)) {
                    best = set;
                }
            }
            for (int set : sets) {
                if (set != best && Integer.bitCount(set) == Integer.bitCount(best)) {
                    throw new IllegalStateException("two sets are the fewest");
                }
            }
            return best;
        }

        int pay(int i) {
            if (i < -1) {
                return BAD;
            }
            int due = 0;
            for (int k : now.tied) {
                due |= now.knots.get(k).d <= now.day ? 1 << k : 0;
            }
            List<Integer> sets = new ArrayList<>();
            for (TreeSet<Integer> left : reached(now.day, now.alive)) {
                if ((bits(left) & due) == 0) {
                    sets.add(bits(now.tied) & ~bits(left));
                }
            }
            int all = fewest(sets);
            if (all == NONE || i == -1) {
                return all == NONE ? NONE : Integer.bitCount(all);
            }
            List<Integer> turn = new ArrayList<>();
            TreeSet<Integer> left = new TreeSet<>(now.tied);
            while (turn.size() < Integer.bitCount(all)) {
                int k = 0;
                while ((all >> k & 1) == 0 || !may(k, left, now.day, now.alive)) {
                    k++;
                }
                turn.add(k);
                left.remove(k);
            }
            return i < turn.size() ? turn.get(i) : NONE;
        }

        int forEver(List<Boolean> alive) {
            int set = bits(now.tied);
            for (TreeSet<Integer> left : reached(99, alive)) {
                for (int k : now.tied) {
                    set &= may(k, left, 99, alive) ? ~(1 << k) : -1;
                }
            }
            return set;
        }

        int frees(int i) {
            if (!in(i, 0, now.alive.size() - 1)) {
                return BAD;
            }
            List<Boolean> then = new ArrayList<>(now.alive);
            then.set(i, true);
            return Integer.bitCount(forEver(now.alive)) - Integer.bitCount(forEver(then));
        }

        int fresh(int m, int f, int what) {
            if (!in(m, 1, 8) || !in(f, 0, (1 << now.knots.size()) - 1) || !in(what, 0, 1)) {
                return BAD;
            }
            List<Integer> free = new ArrayList<>();
            for (int k : now.tied) {
                boolean hurts = (f >> k & 1) == 1;
                for (int j = 0; j < now.knots.size(); j++) {
                    hurts |= (f >> j & 1) == 1 && above(j).contains(k);
                }
                if (!hurts) {
                    free.add(k);
                }
            }
            if (free.size() < m) {
                return NONE;
            }
            int from = 0;
            for (int i = 0; i + m <= free.size(); i++) {
                if (free.get(i + m - 1) - free.get(i) < free.get(from + m - 1) - free.get(from)) {
                    from = i;
                }
            }
            return what == 0 ? bits(free.subList(from, from + m)) : free.get(from + m - 1) - free.get(from);
        }

        int orders(TreeSet<Integer> open) {
            if (open.isEmpty()) {
                return 1;
            }
            int sum = 0;
            for (int k : open) {
                if ((now.knots.get(k).s & bits(open)) == 0) {
                    TreeSet<Integer> rest = new TreeSet<>(open);
                    rest.remove(k);
                    sum += orders(rest);
                }
            }
            return sum;
        }

        int tell(int k) {
            if (!isKnot(k)) {
                return BAD;
            }
            if (row.contains(k)) {
                return NO;
            }
            row.add(k);
            return row.size();
        }

        int noRow() {
            int had = row.size();
            row.clear();
            return had;
        }

        int judge() {
            for (int i = 0; i < row.size(); i++) {
                for (int j = i + 1; j < row.size(); j++) {
                    if ((now.knots.get(row.get(i)).s >> row.get(j) & 1) == 1) {
                        return i;
                    }
                }
            }
            return NONE;
        }

        int cross(int rope, int c) {
            if (!in(rope, 0, 1) || !in(c, 0, 7)) {
                return BAD;
            }
            if (ropes.get(rope).size() == 16) {
                return FULL;
            }
            ropes.get(rope).add(c);
            return ropes.get(rope).size();
        }

        int smooth(int rope) {
            if (!in(rope, 0, 1)) {
                return BAD;
            }
            int had = ropes.get(rope).size();
            ropes.get(rope).clear();
            return had;
        }

        static boolean pair(int c, int d) {
            return c / 2 == d / 2 && c % 2 != d % 2;
        }

        List<Integer> loosened(int rope) {
            List<Integer> r = new ArrayList<>(ropes.get(rope));
            for (int i = 0; i + 1 < r.size(); ) {
                if (pair(r.get(i), r.get(i + 1))) {
                    r.remove(i + 1);
                    r.remove(i);
                    i = 0;
                } else {
                    i++;
                }
            }
            return r;
        }

        int loose(int rope, int i) {
            if (!in(rope, 0, 1) || i < -1) {
                return BAD;
            }
            List<Integer> r = loosened(rope);
            return i == -1 ? r.size() : i < r.size() ? r.get(i) : NONE;
        }

        int alike() {
            List<Integer> left = loosened(0);
            List<Integer> right = loosened(1);
            if (left.equals(right)) {
                return 2;
            }
            for (List<Integer> r : List.of(left, right)) {
                while (r.size() > 1 && pair(r.get(0), r.get(r.size() - 1))) {
                    r.remove(r.size() - 1);
                    r.remove(0);
                }
            }
            for (int turn = 0; turn < left.size(); turn++) {
                left.add(left.remove(0));
                if (left.equals(right)) {
                    return 1;
                }
            }
            return 0;
        }

        int mark(int rope, int strand) {
            if (!in(rope, 0, 1) || !in(strand, 0, 3)) {
                return BAD;
            }
            int m = 100;
            for (int c : ropes.get(rope)) {
                m += c / 2 != strand ? 0 : c % 2 == 0 ? 1 : -1;
            }
            return m;
        }

        int year(int z, int n, int what) {
            if (!in(z, 0, 9999) || !in(n, 1, 60) || !in(what, 0, 1)) {
                return BAD;
            }
            TreeSet<Integer> tied = new TreeSet<>(now.tied);
            int done = 0;
            for (int t = 0; t < n; t++) {
                long x = 7919L * z + 6151L * t + 1;
                int q = (int) (x * x % 65521) % now.knots.size();
                Knot it = now.knots.get(q);
                if (tied.contains(q)) {
                    if (may(q, tied, now.day, now.alive)) {
                        tied.remove(q);
                        done++;
                    }
                } else if (now.alive.get(it.a) && now.alive.get(it.b) && (it.s & ~bits(tied)) == 0) {
                    tied.add(q);
                    done++;
                }
            }
            return what == 0 ? bits(tied) : done;
        }

        int keep() {
            if (kept.size() == 2) {
                return FULL;
            }
            kept.addLast(now.copied());
            return kept.size();
        }

        int back() {
            if (kept.isEmpty()) {
                return NO;
            }
            now = kept.removeLast();
            past.clear();
            row.clear();
            return kept.size();
        }

        int count(int what) {
            if (!in(what, 0, 8)) {
                return BAD;
            }
            return new int[] {now.alive.size(), now.knots.size(), now.tied.size(), now.day, row.size(), past.size(),
                kept.size(), text.length(), now.law}[what];
        }
    }

    private static final Random draws = new Random(20261119);

    /** Mostly a number of the range or just beside it, at times one far off. */
    private static int number(int from, int to) {
        int d = draws.nextInt(40);
        if (d == 0) {
            return draws.nextInt();
        }
        if (d == 1) {
            return draws.nextBoolean() ? Integer.MIN_VALUE : Integer.MAX_VALUE;
        }
        if (d == 2) {
            return draws.nextBoolean() ? from - 1 : to + 1;
        }
        return from + draws.nextInt(to - from + 1);
    }

    private static String drawnText() {
        StringBuilder t = new StringBuilder();
        int persons = 2 + draws.nextInt(5);
        for (int i = 0; i < persons; i++) {
            t.append(draws.nextInt(5) == 0 ? "p0;" : "p1;");
        }
        int knots = 1 + draws.nextInt(8);
        for (int k = 0; k < knots; k++) {
            int a = draws.nextInt(persons);
            int b = (a + 1 + draws.nextInt(persons - 1)) % persons;
            int s = draws.nextInt(1 << k) & draws.nextInt(1 << k);
            int d = draws.nextInt(draws.nextBoolean() ? 10 : 100);
            int kind = draws.nextBoolean() ? 0 : draws.nextInt(4);
            t.append('k').append(a).append(',').append(b).append(',').append(s).append(',').append(d).append(',');
            t.append(draws.nextInt(9) == 0 ? "0" : "").append(kind).append(';');
            if (draws.nextInt(12) == 0) {
                t.append('l').append(draws.nextInt(3)).append(';');
            }
        }
        if (draws.nextInt(6) == 0) {
            int place = draws.nextInt(t.length());
            String signs = "pkl;,0123456789 \u00ff\u0000";
            char sign = signs.charAt(draws.nextInt(signs.length()));
            switch (draws.nextInt(3)) {
                case 0 -> t.setCharAt(place, sign);
                case 1 -> t.deleteCharAt(place);
                default -> t.insert(place, sign);
            }
        }
        return t.toString();
    }

    private static int wrong = 0;
    private static final StringBuilder told = new StringBuilder();
    private static final Map<Integer, int[]> seen = new HashMap<>();

    private static void same(int call, String name, int got, int want, Object... args) {
        told.append(name).append(List.of(args)).append(" = ").append(got).append('\n');
        int[] kinds = seen.computeIfAbsent(call, c -> new int[5]);
        kinds[want < 0 && want >= -4 ? -want : 0]++;
        if (got != want) {
            wrong++;
            System.out.println(told + "due is " + want);
        }
    }

    private static void writeText(TiedToTown x, Model m, String text) {
        for (int from = 0; from < text.length(); ) {
            int n = Math.min(text.length() - from, 1 + draws.nextInt(8));
            long v = draws.nextLong();
            for (int i = from; i < from + n; i++) {
                v = v << 8 | text.charAt(i);
            }
            same(2, "write", x.write(n, v), m.write(n, v), n, v);
            from += n;
        }
    }

    private static void townCall(TiedToTown x, Model m, int call) {
        int k = number(0, Math.max(0, m.now.knots.size() - 1));
        int i = number(0, Math.max(0, m.now.alive.size() - 1));
        switch (call) {
            case 6 -> {
                int what = number(0, 6);
                same(call, "knot", x.knot(k, what), m.knot(k, what), k, what);
            }
            case 7 -> {
                int what = number(0, 1);
                same(call, "person", x.person(i, what), m.person(i, what), i, what);
            }
            case 8 -> same(call, "may", x.may(k), m.may(k), k);
            case 9 -> same(call, "undo", x.undo(k), m.undo(k), k);
            case 10 -> {
                int b = number(0, m.now.alive.size() - 1);
                int all = (1 << m.now.knots.size()) - 1;
                int s = draws.nextBoolean() ? Model.bits(m.now.tied) & draws.nextInt() : number(0, all);
                int d = number(0, 99);
                int kind = number(0, 3);
                same(call, "tie", x.tie(i, b, s, d, kind), m.tie(i, b, s, d, kind), i, b, s, d, kind);
            }
            case 11 -> same(call, "pull", x.pull(k), m.take(k, true), k);
            case 12 -> same(call, "cut", x.cut(k), m.take(k, false), k);
            case 13 -> {
                int n = number(1, draws.nextInt(9) == 0 ? 99 : 9);
                same(call, "days", x.days(n), m.days(n), n);
            }
            case 14 -> same(call, "takeBack", x.takeBack(), m.takeBack());
            case 15 -> same(call, "loosen", x.loosen(k), m.loosen(k), k);
            case 16 -> {
                int at = number(-1, 8);
                same(call, "pay", x.pay(at), m.pay(at), at);
            }
            case 17 -> same(call, "forEver", x.forEver(), m.forEver(m.now.alive));
            case 18 -> same(call, "frees", x.frees(i), m.frees(i), i);
            default -> rowOrRope(x, m, call);
        }
    }

    private static void rowOrRope(TiedToTown x, Model m, int call) {
        int k = number(0, Math.max(0, m.now.knots.size() - 1));
        int rope = number(0, 1);
        int what = number(0, 1);
        switch (call) {
            case 19 -> {
                int n = number(1, 8);
                int f = number(0, (1 << m.now.knots.size()) - 1);
                f &= draws.nextBoolean() ? -1 : 1 << draws.nextInt(8);
                same(call, "fresh", x.fresh(n, f, what), m.fresh(n, f, what), n, f, what);
            }
            case 20 -> same(call, "orders", x.orders(), draws.nextInt(8) == 0 ? m.orders(m.now.tied) : x.orders());
            case 21 -> same(call, "tell", x.tell(k), m.tell(k), k);
            case 22 -> same(call, "noRow", x.noRow(), m.noRow());
            case 23 -> same(call, "judge", x.judge(), m.judge());
            case 24 -> {
                int c = number(0, draws.nextBoolean() ? 7 : 3);
                same(call, "cross", x.cross(rope, c), m.cross(rope, c), rope, c);
            }
            case 25 -> same(call, "smooth", x.smooth(rope), m.smooth(rope), rope);
            case 26 -> {
                int at = number(-1, 6);
                same(call, "loose", x.loose(rope, at), m.loose(rope, at), rope, at);
            }
            case 27 -> same(call, "alike", x.alike(), m.alike());
            case 28 -> {
                int strand = number(0, 3);
                same(call, "mark", x.mark(rope, strand), m.mark(rope, strand), rope, strand);
            }
            case 29 -> {
                int z = number(0, 9999);
                int n = number(1, 60);
                same(call, "year", x.year(z, n, what), m.year(z, n, what), z, n, what);
            }
            case 30 -> same(call, "keep", x.keep(), m.keep());
            case 31 -> same(call, "back", x.back(), m.back());
            default -> {
                int which = number(0, 8);
                same(call, "count", x.count(which), m.count(which), which);
            }
        }
    }

    private static void textCall(TiedToTown x, Model m, int call) {
        switch (call) {
            case 2 -> {
                int n = number(1, 8);
                long v = draws.nextLong();
                same(call, "write", x.write(n, v), m.write(n, v), n, v);
            }
            case 3 -> {
                same(call, "wipe", x.wipe(), m.wipe());
                writeText(x, m, drawnText());
            }
            case 4 -> same(call, "fault", x.fault(), m.fault());
            default -> same(call, "lay", x.lay(), m.lay());
        }
    }

    private static void wholeState(TiedToTown x, Model m) {
        for (int what = 0; what < 9; what++) {
            same(32, "count", x.count(what), m.count(what), what);
        }
        for (int k = 0; k < m.now.knots.size(); k++) {
            for (int what = 0; what < 7; what++) {
                same(6, "knot", x.knot(k, what), m.knot(k, what), k, what);
            }
        }
    }

    /** Alike ropes are seldom drawn: the second is the first, turned, between a crossing and its undoing. */
    private static void turnedRope(TiedToTown x, Model m) {
        same(25, "smooth", x.smooth(1), m.smooth(1), 1);
        List<Integer> r = m.ropes.get(0);
        int size = r.size();
        int turn = size == 0 ? 0 : draws.nextInt(size);
        int c = draws.nextInt(8);
        int d = draws.nextInt(3) == 0 ? draws.nextInt(8) : c ^ 1;
        same(24, "cross", x.cross(1, c), m.cross(1, c), 1, c);
        for (int i = 0; i < size; i++) {
            int e = r.get((i + turn) % size);
            same(24, "cross", x.cross(1, e), m.cross(1, e), 1, e);
        }
        same(24, "cross", x.cross(1, d), m.cross(1, d), 1, d);
        same(27, "alike", x.alike(), m.alike());
    }

    public static void main(String[] args) {
        int[] alikes = new int[3];
        for (int run = 0; run < RUNS && wrong == 0; run++) {
            told.setLength(0);
            TiedToTown x = new TiedToTown();
            Model m = new Model();
            if (run % 8 != 0) {
                writeText(x, m, drawnText());
                same(4, "fault", x.fault(), m.fault());
                same(5, "lay", x.lay(), m.lay());
            }
            for (int i = 0; i < CALLS && wrong == 0; i++) {
                int call = 6 + draws.nextInt(27);
                if (draws.nextInt(30) == 0) {
                    textCall(x, m, 2 + draws.nextInt(4));
                } else if ((call == 22 || call == 25 || call == 12 || call == 9) && draws.nextInt(3) != 0) {
                    same(23, "judge", x.judge(), m.judge());
                } else {
                    townCall(x, m, call);
                }
                if (draws.nextInt(25) == 0) {
                    turnedRope(x, m);
                    alikes[x.alike()]++;
                }
            }
            wholeState(x, m);
        }
        for (int call = 2; call <= 32; call++) {
            int[] kinds = seen.get(call);
            System.out.println("promise " + call + ": " + kinds[0] + " answers, BAD " + kinds[1] + ", NO " + kinds[2]
                + ", FULL " + kinds[3] + ", NONE " + kinds[4]);
        }
        System.out.println("alike 0, 1, 2: " + alikes[0] + ", " + alikes[1] + ", " + alikes[2]);
        System.out.println(wrong == 0 ? "the class answers as the model does" : "the class does not answer as the model does");
        if (wrong != 0) {
            System.exit(1);
        }
    }
}
