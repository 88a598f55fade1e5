import java.util.ArrayList;
import java.util.HashSet;
import java.util.List;
import java.util.Set;

/**
 * The document read a second time, as slowly and plainly as can be: sets, lists, trees of kinds, every row of
 * choices written out. ModelTest holds the class against it.
 */
final class Model {
    static final int NONE = -1;

    static final class World implements Cloneable {
        Set<Integer> standing = new HashSet<>();
        int[] counts = new int[4];
        long day = 0;

        int awake() {
            return (int) (day % 2);
        }

        World twin() {
            World w = new World();
            w.standing = new HashSet<>(standing);
            w.counts = counts.clone();
            w.day = day;
            return w;
        }

        int bits() {
            int set = 0;
            for (int m : standing) {
                set += 1 << m;
            }
            return set;
        }
    }

    static class Deed {
        int kind, m, c, n, needs, bars;
        boolean[] locked = new boolean[2];

        Deed twin() {
            Deed d = new Deed();
            d.kind = kind; d.m = m; d.c = c; d.n = n; d.needs = needs; d.bars = bars;
            d.locked = locked.clone();
            return d;
        }

        boolean can(World w, int half) {
            if (locked[half]) return false;
            for (int i = 0; i < 8; i++) {
                if ((needs >> i) % 2 == 1 && !w.standing.contains(i)) return false;
                if ((bars >> i) % 2 == 1 && w.standing.contains(i)) return false;
            }
            boolean is = w.standing.contains(m);
            if (kind == 1) return !is;
            if (kind == 2) return is;
            if (kind == 4) return !is && w.counts[c] >= n;
            if (kind == 5) return is && w.counts[c] + n <= 23;
            return true;
        }

        void doIt(World w) {
            if (kind == 0) w.counts[c] = w.counts[c] + n > 23 ? 23 : w.counts[c] + n;
            if (kind == 1 || kind == 4) w.standing.add(m);
            if (kind == 2 || kind == 5) w.standing.remove(m);
            if (kind == 3 && !w.standing.remove(m)) w.standing.add(m);
            if (kind == 4) w.counts[c] -= n;
            if (kind == 5) w.counts[c] += n;
        }
    }

    static final class All {
        World w = new World();
        List<Deed> deeds = new ArrayList<>();
        int[][] worth = new int[2][12];
        int hidden = 0;
        int seed = 1;
        long[] gained = new long[2];
        World before = null;

        All twin() {
            All a = new All();
            a.w = w.twin();
            for (Deed d : deeds) a.deeds.add(d.twin());
            a.worth = new int[][] {worth[0].clone(), worth[1].clone()};
            a.hidden = hidden;
            a.seed = seed;
            a.gained = gained.clone();
            a.before = before == null ? null : before.twin();
            return a;
        }

        int value(World at, int half) {
            int sum = 0;
            for (int m : at.standing) sum += worth[half][m];
            for (int c = 0; c < 4; c++) sum += worth[half][8 + c] * at.counts[c];
            return sum;
        }

        /** NONE first, then all that can be, by their numbers. */
        List<Integer> choices(World at) {
            List<Integer> all = new ArrayList<>();
            all.add(NONE);
            for (int i = 0; i < deeds.size(); i++) {
                if (deeds.get(i).can(at, at.awake())) all.add(i);
            }
            return all;
        }

        World with(World at, int act) {
            World then = at.twin();
            if (act != NONE) deeds.get(act).doIt(then);
            return then;
        }

        /** {first act, gains of 0, gains of 1} */
        int[] best(World at, int k) {
            if (k == 0) return new int[] {NONE, 0, 0};
            int half = at.awake();
            int[] found = null;
            for (int act : choices(at)) {
                World then = with(at, act);
                int today = value(then, half);
                then.day++;
                int[] rest = best(then, k - 1);
                int[] mine = {act, rest[1], rest[2]};
                mine[1 + half] += today;
                if (found == null || mine[1 + half] > found[1 + half]) found = mine;
            }
            return found;
        }

        int together(World at, int k) {
            if (k == 0) return 0;
            int most = Integer.MIN_VALUE;
            for (int act : choices(at)) {
                World then = with(at, act);
                int today = value(then, at.awake());
                then.day++;
                most = Math.max(most, today + together(then, k - 1));
            }
            return most;
        }

        int against(World at, int half, Rule other, int k) {
            if (k == 0) return 0;
            if (at.awake() != half) {
                World then = with(at, other.says(this, at));
                then.day++;
                return against(then, half, other, k - 1);
            }
            int most = Integer.MIN_VALUE;
            for (int act : choices(at)) {
                World then = with(at, act);
                int today = value(then, half);
                then.day++;
                most = Math.max(most, today + against(then, half, other, k - 1));
            }
            return most;
        }

        /** All worlds that can be behind k days; idle: a half that does nothing, or NONE. */
        List<World> ends(World at, int k, int idle) {
            List<World> now = new ArrayList<>();
            now.add(at);
            for (int d = 0; d < k; d++) {
                List<World> then = new ArrayList<>();
                Set<String> seen = new HashSet<>();
                for (World w : now) {
                    for (int act : choices(w)) {
                        if (w.awake() == idle && act != NONE) continue;
                        World x = with(w, act);
                        x.day++;
                        if (seen.add(x.bits() + " " + java.util.Arrays.toString(x.counts))) then.add(x);
                    }
                }
                now = then;
            }
            return now;
        }

        int found(int unseen) {
            int half = 1 - w.awake();
            int set = 0;
            for (int act = 0; act < deeds.size(); act++) {
                if (deeds.get(act).can(before, half) && looksLike(with(before, act), unseen)) set += 1 << act;
            }
            if (looksLike(before, unseen)) set += 1024;
            return set;
        }

        boolean looksLike(World x, int unseen) {
            for (int m = 0; m < 8; m++) {
                boolean isHidden = (unseen >> m) % 2 == 1;
                if (!isHidden && x.standing.contains(m) != w.standing.contains(m)) return false;
            }
            return java.util.Arrays.equals(x.counts, w.counts);
        }

        long live(int act) {
            int half = w.awake();
            before = w.twin();
            w = with(w, act);
            gained[half] += value(w, half);
            w.day++;
            return w.day;
        }
    }

    abstract static class Rule {
        int kind, a;
        abstract int says(All all, World at);
        static Rule of(int kind, int a) {
            Rule r;
            if (kind == 1) r = new Own();
            else if (kind == 2) r = new Kind();
            else if (kind == 3) r = new Turn();
            else if (kind == 4) r = new Pact();
            else if (kind == 5) r = new Idle();
            else r = new Low();
            r.kind = kind;
            r.a = a;
            return r;
        }
        boolean isOf(int k) {
            if (k == 0) return true;
            if (k == 1) return this instanceof Own;
            if (k == 2) return this instanceof Kind;
            return kind == k;
        }
    }

    static class Own extends Rule {
        int own(All all, World at) {
            return all.best(at, 1)[0];
        }
        int says(All all, World at) {
            return own(all, at);
        }
    }

    static class Kind extends Own {
        int says(All all, World at) {
            int most = Integer.MIN_VALUE;
            int first = NONE;
            for (int act : all.choices(at)) {
                World then = all.with(at, act);
                int sum = all.value(then, 0) + all.value(then, 1);
                if (sum > most) {
                    most = sum;
                    first = act;
                }
            }
            return first;
        }
    }

    static final class Turn extends Rule {
        int says(All all, World at) {
            return all.best(at, a % 4 + 1)[0];
        }
    }

    static final class Pact extends Kind {
        int says(All all, World at) {
            return all.value(at, at.awake()) >= a - 50 ? super.says(all, at) : own(all, at);
        }
    }

    static final class Idle extends Own {
        int says(All all, World at) {
            int act = own(all, at);
            int by = all.value(all.with(at, act), at.awake());
            return by <= all.value(at, at.awake()) + a ? NONE : act;
        }
    }

    static final class Low extends Rule {
        int says(All all, World at) {
            List<Integer> can = all.choices(at);
            return can.size() > 1 ? can.get(1) : NONE;
        }
    }

    static final class Row {
        int sort;
        long[] of;
    }

    private All all = new All();
    private All kept = null;
    private final Object[] shelves = new Object[8];
    private String tape = "";
    private final int[] refused = new int[5];

    private int no(int number) {
        refused[-number - 2]++;
        return number;
    }

    private int noGain(int number) {
        return no(number) - 1000000;
    }

    private static boolean in(int v, int lo, int hi) {
        return v >= lo && v <= hi;
    }

    private boolean isAct(int act) {
        return in(act, 0, all.deeds.size() - 1);
    }

    private int wantRules(int... at) {
        for (int s : at) if (shelves[s] instanceof Row) return -3;
        for (int s : at) if (shelves[s] == null) return -4;
        return 0;
    }

    private int wantRows(int... at) {
        for (int s : at) if (shelves[s] instanceof Rule) return -3;
        for (int s : at) if (shelves[s] == null) return -4;
        return 0;
    }

    private Rule r(int s) {
        return (Rule) shelves[s];
    }

    public int row(int s, int sort, int n) {
        if (!in(s, 0, 7) || !in(sort, 0, 4) || !in(n, 0, 40)) return no(-2);
        Row row = new Row();
        row.sort = sort;
        row.of = new long[n];
        shelves[s] = row;
        return 1;
    }

    public int set(int s, int i, long v) {
        if (!in(s, 0, 7)) return no(-2);
        if (wantRows(s) != 0) return no(wantRows(s));
        Row row = (Row) shelves[s];
        if (!in(i, 0, row.of.length - 1)) return no(-2);
        if (row.sort == 0) row.of[i] = (byte) v;
        if (row.sort == 1) row.of[i] = (short) v;
        if (row.sort == 2) row.of[i] = (int) v;
        if (row.sort == 3) row.of[i] = v;
        if (row.sort == 4) row.of[i] = v == 0 ? 0 : 1;
        return 1;
    }

    public int copy(int p, int q, int i, int j, int n) {
        if (!in(p, 0, 7) || !in(q, 0, 7)) return no(-2);
        if (shelves[p] instanceof Rule || shelves[q] instanceof Rule) return no(-3);
        if (shelves[p] instanceof Row x && shelves[q] instanceof Row y && x.sort != y.sort) return no(-3);
        if (shelves[p] == null || shelves[q] == null) return no(-4);
        long[] from = ((Row) shelves[p]).of.clone();
        long[] to = ((Row) shelves[q]).of;
        if (n < 0 || i < 0 || j < 0 || (long) i + n > from.length || (long) j + n > to.length) return no(-2);
        for (int d = 0; d < n; d++) to[j + d] = from[i + d];
        return n;
    }

    public long element(int s, int i) {
        return in(s, 0, 7) && shelves[s] instanceof Row row && in(i, 0, row.of.length - 1) ? row.of[i] : 0;
    }

    public int holds(int s) {
        if (!in(s, 0, 7) || shelves[s] == null) return NONE;
        return shelves[s] instanceof Row row ? row.sort : 10 + r(s).kind;
    }

    public int rule(int s, int kind, int a) {
        if (!in(s, 0, 7) || !in(kind, 1, 6) || !in(a, 0, 99)) return no(-2);
        shelves[s] = Rule.of(kind, a);
        return 1;
    }

    public int says(int s, int kind) {
        if (!in(s, 0, 7) || !in(kind, 0, 6)) return no(-2);
        if (wantRules(s) != 0) return no(wantRules(s));
        if (!r(s).isOf(kind)) return no(-3);
        return kind == 0 ? r(s).a : r(s).says(all, all.w);
    }

    public int act(int kind, int mark, int count, int n, int needs, int bars) {
        if (!in(kind, 0, 5) || !in(mark, 0, 7) || !in(count, 0, 3) || !in(n, 1, 9)) return no(-2);
        if (!in(needs, 0, 255) || !in(bars, 0, 255)) return no(-2);
        if (all.deeds.size() == 10) return no(-6);
        all.before = null;
        put(all, kind, mark, count, n, needs, bars);
        return all.deeds.size() - 1;
    }

    private static void put(All a, int kind, int mark, int count, int n, int needs, int bars) {
        Deed d = new Deed();
        d.kind = kind; d.m = mark; d.c = count; d.n = n; d.needs = needs; d.bars = bars;
        a.deeds.add(d);
    }

    public int mark(int mark, boolean is) {
        if (!in(mark, 0, 7)) return no(-2);
        all.before = null;
        return (is ? all.w.standing.add(mark) : all.w.standing.remove(mark)) ? 1 : 0;
    }

    public int count(int count, int v) {
        if (!in(count, 0, 3) || !in(v, 0, 23)) return no(-2);
        all.before = null;
        int was = all.w.counts[count];
        all.w.counts[count] = v;
        return was;
    }

    public int likes(int half, int what, int v) {
        if (!in(half, 0, 1) || !in(what, 0, 11) || !in(v, what < 8 ? -99 : -9, what < 8 ? 99 : 9)) return no(-2);
        all.worth[half][what] = v;
        return 1;
    }

    public int lock(int half, int act, boolean is) {
        if (!in(half, 0, 1) || !isAct(act)) return no(-2);
        all.before = null;
        boolean was = all.deeds.get(act).locked[half];
        all.deeds.get(act).locked[half] = is;
        return was == is ? 0 : 1;
    }

    public int hide(int set) {
        if (!in(set, 0, 255)) return no(-2);
        int was = all.hidden;
        all.hidden = set;
        return was;
    }

    public int feed(int letter) {
        if (!in(letter, 0, 255)) return no(-2);
        if (tape.length() == 250) return no(-6);
        tape += (char) letter;
        return tape.length();
    }

    public int wipe() {
        int was = tape.length();
        tape = "";
        return was;
    }

    // tokens as {text, place}; the last one is {"", size}
    private List<String> words;
    private List<Integer> places;
    private int at;

    private static final class Fault extends RuntimeException {
        private static final long serialVersionUID = 1;
    }

    private void cut() {
        words = new ArrayList<>();
        places = new ArrayList<>();
        java.util.regex.Matcher m = java.util.regex.Pattern.compile("[a-z]+|[0-9]+|;|[^ ]", java.util.regex.Pattern.DOTALL)
            .matcher(tape);
        while (m.find()) {
            words.add(m.group());
            places.add(m.start());
        }
        words.add("");
        places.add(tape.length());
        at = 0;
    }

    private int num(int lo, int hi) {
        String t = words.get(at);
        if (!t.matches("[0-9]{1,2}") || !in(Integer.parseInt(t), lo, hi)) throw new Fault();
        at++;
        return Integer.parseInt(t);
    }

    private int many(String word) {
        int set = 0;
        while (words.get(at).equals(word)) {
            at++;
            set |= 1 << num(0, 7);
        }
        return set;
    }

    private void statement(All a) {
        String word = words.get(at);
        if (word.equals("act") && a.deeds.size() == 10) throw new Fault();
        if (!List.of("act", "mark", "count", "likes", "hates", "counts", "costs", "hides", "locks").contains(word)) {
            throw new Fault();
        }
        at++;
        switch (word) {
            case "act" -> put(a, num(0, 5), num(0, 7), num(0, 3), num(1, 9), many("need"), many("bar"));
            case "mark" -> a.w.standing.add(num(0, 7));
            case "count" -> a.w.counts[num(0, 3)] = num(0, 23);
            case "likes" -> a.worth[num(0, 1)][num(0, 7)] = num(0, 99);
            case "hates" -> a.worth[num(0, 1)][num(0, 7)] = -num(0, 99);
            case "counts" -> a.worth[num(0, 1)][8 + num(0, 3)] = num(0, 9);
            case "costs" -> a.worth[num(0, 1)][8 + num(0, 3)] = -num(0, 9);
            case "hides" -> a.hidden |= 1 << num(0, 7);
            default -> {
                int half = num(0, 1);
                a.deeds.get(num(0, a.deeds.size() - 1)).locked[half] = true;
            }
        }
    }

    public int town() {
        cut();
        tape = "";
        All draft = all.twin();
        try {
            int n = 0;
            while (true) {
                statement(draft);
                n++;
                if (words.get(at).isEmpty()) {
                    all = draft;
                    all.before = null;
                    return n;
                }
                if (!words.get(at).equals(";")) throw new Fault();
                at++;
            }
        } catch (Fault f) {
            no(-2);
            return -20 - places.get(at);
        }
    }

    public int actOf(int act, int what) {
        if (!isAct(act) || !in(what, 0, 6)) return no(-2);
        Deed d = all.deeds.get(act);
        return new int[] {d.kind, d.m, d.c, d.n, d.needs, d.bars,
            (d.locked[0] ? 1 : 0) + (d.locked[1] ? 2 : 0)}[what];
    }

    public int worthOf(int half, int what) {
        return in(half, 0, 1) && in(what, 0, 11) ? all.worth[half][what] : noGain(-2);
    }

    public int stands(int what) {
        if (!in(what, 0, 6)) return no(-2);
        int[] c = all.w.counts;
        return new int[] {all.w.bits(), all.hidden, c[0], c[1], c[2], c[3], all.w.awake()}[what];
    }

    public int can(int half) {
        if (!in(half, 0, 1)) return no(-2);
        int set = 0;
        for (int i = 0; i < all.deeds.size(); i++) if (all.deeds.get(i).can(all.w, half)) set += 1 << i;
        return set;
    }

    public int value(int half) {
        return in(half, 0, 1) ? all.value(all.w, half) : noGain(-2);
    }

    public int gain(int act) {
        if (act != NONE && !isAct(act)) return noGain(-2);
        if (!all.choices(all.w).contains(act)) return noGain(-5);
        return all.value(all.with(all.w, act), all.w.awake());
    }

    public int does(int act) {
        if (act != NONE && !isAct(act)) return no(-2);
        if (!all.choices(all.w).contains(act)) return no(-5);
        return (int) all.live(act);
    }

    public int next(int s) {
        if (!in(s, 0, 7)) return no(-2);
        if (wantRules(s) != 0) return no(wantRules(s));
        return r(s).says(all, all.w);
    }

    /** {gains of 0, gains of 1, marks, days with something done, what is chosen on the last day} */
    private int[] ran(Rule zero, Rule one, int n) {
        All x = all.twin();
        x.gained = new long[2];
        int done = 0;
        int last = NONE;
        for (int d = 0; d < n; d++) {
            int act = (x.w.awake() == 0 ? zero : one).says(x, x.w);
            if (act != NONE) done++;
            if (d == n - 1) last = act;
            x.live(act);
        }
        return new int[] {(int) x.gained[0], (int) x.gained[1], x.w.bits(), done, last};
    }

    public int run(int s, int t, int n, int what) {
        if (!in(s, 0, 7) || !in(t, 0, 7) || !in(n, 0, 60) || !in(what, 0, 4)) return noGain(-2);
        if (wantRules(s, t) != 0) return noGain(wantRules(s, t));
        return ran(r(s), r(t), n)[what];
    }

    private int ownGains(Rule own, Rule other, int n) {
        return all.w.awake() == 0 ? ran(own, other, n)[0] : ran(other, own, n)[1];
    }

    public int head(int t, int n) {
        if (!in(t, 0, 7) || !in(n, 1, 60)) return no(-2);
        if (wantRules(t) != 0) return no(wantRules(t));
        int first = NONE;
        for (int s = 7; s >= 0; s--) {
            if (!(shelves[s] instanceof Rule)) continue;
            if (first == NONE || ownGains(r(s), r(t), n) >= ownGains(r(first), r(t), n)) first = s;
        }
        return first;
    }

    public int days(int s, int t, int n) {
        if (!in(s, 0, 7) || !in(t, 0, 7) || !in(n, 1, 20)) return no(-2);
        if (wantRules(s, t) != 0) return no(wantRules(s, t));
        for (int d = 0; d < n; d++) all.live((all.w.awake() == 0 ? r(s) : r(t)).says(all, all.w));
        return (int) all.w.day;
    }

    public int gained(int what) {
        if (!in(what, 0, 2)) return noGain(-2);
        return (int) (what == 2 ? all.gained[0] + all.gained[1] : all.gained[what]);
    }

    private All toldWorld;

    private int wrongAt(int s, int n) {
        toldWorld = all.twin();
        toldWorld.gained = new long[2];
        for (int d = 0; d < n; d++) {
            long e = ((Row) shelves[s]).of[d];
            int act = e >= 0 && e < all.deeds.size() ? (int) e : NONE;
            if (!toldWorld.choices(toldWorld.w).contains(act)) return d;
            toldWorld.live(act);
        }
        return NONE;
    }

    public int judge(int s, int n) {
        if (!in(s, 0, 7) || !in(n, 0, 20)) return no(-2);
        if (wantRows(s) != 0) return no(wantRows(s));
        if (((Row) shelves[s]).of.length < n) return no(-2);
        return wrongAt(s, n);
    }

    public int told(int s, int n, int what) {
        if (!in(s, 0, 7) || !in(n, 0, 20) || !in(what, 0, 2)) return noGain(-2);
        if (wantRows(s) != 0) return noGain(wantRows(s));
        if (((Row) shelves[s]).of.length < n) return noGain(-2);
        if (wrongAt(s, n) != NONE) return noGain(-5);
        return what == 2 ? toldWorld.w.bits() : (int) toldWorld.gained[what];
    }

    public int best(int k, int what) {
        if (!in(k, 1, 4) || !in(what, 0, 2)) return noGain(-2);
        int[] b = all.best(all.w, k);
        return what == 2 ? b[0] : b[1 + what];
    }

    public int against(int s, int k) {
        if (!in(s, 0, 7) || !in(k, 1, 4)) return noGain(-2);
        if (wantRules(s) != 0) return noGain(wantRules(s));
        return all.against(all.w, all.w.awake(), r(s), k);
    }

    public int together(int k) {
        return in(k, 1, 4) ? all.together(all.w, k) : noGain(-2);
    }

    public int harm(int k) {
        if (!in(k, 1, 4)) return noGain(-2);
        int[] b = all.best(all.w, k);
        return all.together(all.w, k) - b[1] - b[2];
    }

    public int work(int set, boolean alone) {
        if (!in(set, 0, 255)) return no(-2);
        for (int k = 0; k <= 4; k++) {
            for (World w : all.ends(all.w, k, alone ? 1 - all.w.awake() : NONE)) {
                if ((w.bits() & set) == set) return k;
            }
        }
        return NONE;
    }

    public int reach(int k) {
        if (!in(k, 0, 4)) return no(-2);
        int set = 0;
        for (int d = 0; d <= k; d++) for (World w : all.ends(all.w, d, NONE)) set |= w.bits();
        return set;
    }

    public int found() {
        return all.before == null ? no(-5) : all.found(all.hidden);
    }

    public int say(int w, int what) {
        if (!in(w, 0, 8) || !in(what, 0, 1)) return no(-2);
        if (all.before == null) return no(-5);
        int size = Math.min(w, Integer.bitCount(all.hidden));
        int least = -1;
        int fewest = 99;
        for (int set = 255; set >= 0; set--) {
            if ((set | all.hidden) != all.hidden || Integer.bitCount(set) != size) continue;
            int left = Integer.bitCount(all.found(all.hidden - set));
            if (left <= fewest) {
                fewest = left;
                least = set;
            }
        }
        return what == 0 ? least : fewest;
    }

    private int lockWorth(int act, int k) {
        int half = all.w.awake();
        All x = all.twin();
        x.deeds.get(act).locked[1 - half] = true;
        return x.best(x.w, k)[1 + half] - all.best(all.w, k)[1 + half];
    }

    public int locking(int act, int k) {
        if (!isAct(act) || !in(k, 1, 4)) return noGain(-2);
        if (all.deeds.get(act).locked[1 - all.w.awake()]) return noGain(-5);
        return lockWorth(act, k);
    }

    public int which(int k) {
        if (!in(k, 1, 4)) return no(-2);
        int most = 0;
        for (int i = 0; i < all.deeds.size(); i++) most = Math.max(most, lockWorth(i, k));
        for (int i = 0; i < all.deeds.size(); i++) if (most > 0 && lockWorth(i, k) == most) return i;
        return NONE;
    }

    public int up(int k) {
        if (!in(k, 1, 3)) return noGain(-2);
        int half = all.w.awake();
        int most = Integer.MIN_VALUE;
        for (int act : all.choices(all.w)) most = Math.max(most, all.best(all.with(all.w, act), k)[1 + half]);
        return most - all.best(all.w, k)[1 + half];
    }

    public int pact(int s, int t, int k) {
        if (!in(s, 0, 7) || !in(t, 0, 7) || !in(k, 1, 4)) return no(-2);
        if (wantRules(s, t) != 0) return no(wantRules(s, t));
        int half = all.w.awake();
        Rule own = half == 0 ? r(s) : r(t);
        Rule other = half == 0 ? r(t) : r(s);
        return all.against(all.w, half, other, k) > ownGains(own, other, k) ? 0 : 1;
    }

    public int leap() {
        all.seed = all.seed * 1103515245 + 12345;
        int mark = ((all.seed >> 16) & 0xFFFF) % 8;
        all.before = null;
        if (!all.w.standing.remove(mark)) all.w.standing.add(mark);
        return mark;
    }

    public int seed(int v) {
        int was = all.seed;
        all.seed = v;
        return was;
    }

    public int image() {
        kept = all.twin();
        return 1;
    }

    public int back() {
        if (kept == null) return no(-5);
        all = kept.twin();
        return 1;
    }

    public int status(int what) {
        if (in(what, 12, 16)) return refused[what - 12];
        int locked = 0;
        for (Deed d : all.deeds) if (d.locked[0] || d.locked[1]) locked++;
        int sum = 0;
        for (int c : all.w.counts) sum += c;
        int full = 0;
        for (Object o : shelves) if (o != null) full++;
        int[] told = {all.deeds.size(), all.w.standing.size(), (int) all.w.day, sum, locked, tape.length(), all.seed, full};
        return in(what, 0, 7) ? told[what] : NONE;
    }
}
