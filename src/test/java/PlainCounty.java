import java.util.ArrayList;
import java.util.Arrays;
import java.util.List;
import java.util.function.Function;
import java.util.regex.Matcher;
import java.util.regex.Pattern;

/**
 * The document once more, word by word and without any thrift: whatever it calls fewest, most or first
 * is found by looking at all there is. The random runs hold the program against it.
 */
final class PlainCounty {
    static final int NONE = -1;

    record Oath(int who, int whom, int thing) { }

    record Folk(int will, int room) { }

    record Line(String word, int[] numbers) { }

    /** A county as it stands; also one as told. */
    static final class Land {
        final List<Folk> folk = new ArrayList<>();
        final int[] hard = {5, 5, 5, 5, 5, 5, 5, 5};
        final boolean[][] clash = new boolean[8][8];
        final boolean[][] likes = new boolean[6][6];
        final int[][] visits = new int[6][6];
        final List<Oath> oaths = new ArrayList<>();
        final boolean[] perjured = new boolean[6];
        int mondays, kept, broken, sworn, first = NONE, best = NONE, bestKept = NONE;

        Land copy() {
            Land l = new Land();
            l.folk.addAll(folk);
            System.arraycopy(hard, 0, l.hard, 0, 8);
            for (int i = 0; i < 8; i++) l.clash[i] = clash[i].clone();
            for (int i = 0; i < 6; i++) l.likes[i] = likes[i].clone();
            for (int i = 0; i < 6; i++) l.visits[i] = visits[i].clone();
            l.oaths.addAll(oaths);
            System.arraycopy(perjured, 0, l.perjured, 0, 6);
            l.mondays = mondays; l.kept = kept; l.broken = broken; l.sworn = sworn;
            l.first = first; l.best = best; l.bestKept = bestKept;
            return l;
        }

        int n() { return folk.size(); }

        boolean there(int p) { return p >= 0 && p < n(); }

        int heart(int who, int whom) {
            return folk.get(whom).will() + (likes[whom][who] ? 2 : 0) + visits[who][whom];
        }

        int sworn(int p) {
            int bits = 0;
            for (Oath o : oaths) if (o.whom() == p) bits |= 1 << o.thing();
            return bits;
        }

        int open(int p) {
            int bits = 0;
            for (Oath o : oaths) if (o.whom() == p && heart(o.who(), p) >= hard[o.thing()]) bits |= 1 << o.thing();
            return bits;
        }

        boolean peaceful(int set) {
            for (int a = 0; a < 8; a++)
                for (int b = 0; b < 8; b++)
                    if ((set >> a & 1) == 1 && (set >> b & 1) == 1 && clash[a][b]) return false;
            return true;
        }

        int keeps(int p) {
            int open = open(p);
            int best = 0;
            for (int set = 0; set < 256; set++)
                if ((set & open) == set && Integer.bitCount(set) <= folk.get(p).room() && peaceful(set)
                    && Integer.bitCount(set) > Integer.bitCount(best)) best = set;
            return best;
        }

        boolean broken(Oath o) { return (keeps(o.whom()) >> o.thing() & 1) == 0; }

        int brokenMany() {
            int many = 0;
            for (Oath o : oaths) if (broken(o)) many++;
            return many;
        }

        boolean swore(int a, int b) {
            for (Oath o : oaths) if (o.who() == a && o.whom() == b) return true;
            return false;
        }

        boolean does(int index, Line d) {
            int[] x = d.numbers();
            for (int i = 0; i < x.length && i < 2; i++) if (!there(x[i])) return false;
            switch (d.word()) {
                case "monday" -> {
                    List<Oath> bad = new ArrayList<>();
                    for (Oath o : oaths) if (broken(o)) bad.add(o);
                    int good = oaths.size() - bad.size();
                    mondays++;
                    kept += good;
                    broken += bad.size();
                    if (good > bestKept) { bestKept = good; best = mondays; }
                    if (!bad.isEmpty() && first == NONE) first = index;
                    for (Oath o : bad) perjured[o.who()] = true;
                    oaths.clear();
                }
                case "tire", "rest" -> {
                    Folk f = folk.get(x[0]);
                    int will = f.will() + (d.word().equals("tire") ? -1 : 1);
                    if (will < 0 || will > 9) return false;
                    folk.set(x[0], new Folk(will, f.room()));
                }
                case "visit" -> {
                    if (visits[x[0]][x[1]] == 9) return false;
                    visits[x[0]][x[1]]++;
                }
                case "court" -> {
                    if (likes[x[1]][x[0]]) return false;
                    likes[x[1]][x[0]] = true;
                }
                case "cut" -> {
                    if (!likes[x[1]][x[0]]) return false;
                    likes[x[1]][x[0]] = false;
                }
                case "swear" -> {
                    Oath o = new Oath(x[0], x[1], x[2]);
                    if (perjured[x[0]] || oaths.contains(o) || oaths.size() == 12) return false;
                    oaths.add(o);
                    sworn++;
                }
                default -> throw new IllegalStateException(d.word());
            }
            return true;
        }

        int likesBits(int p) {
            int bits = 0;
            for (int q = 0; q < 6; q++) if (likes[p][q]) bits |= 1 << q;
            return bits;
        }

        int visitsTo(int p) {
            int many = 0;
            for (int q = 0; q < 6; q++) many += visits[q][p];
            return many;
        }

        int state(int what) {
            int perj = 0;
            for (int p = 0; p < 6; p++) if (perjured[p]) perj |= 1 << p;
            if (what >= 0 && what <= 4) return new int[] {mondays, kept, broken, perj, oaths.size()}[what];
            for (int p = 0; p < n(); p++) {
                if (what == 10 + p) return folk.get(p).will();
                if (what == 20 + p) return sworn(p);
                if (what == 30 + p) return keeps(p);
                if (what == 40 + p) return likesBits(p);
                if (what == 50 + p) return visitsTo(p);
            }
            return NONE;
        }
    }

    /** All that is told; never changed once made, but replaced. */
    record All(String tape, int fault, int place, List<Land> counties, List<List<Line>> terms,
               List<List<Line>> wants, List<List<Line>> logs) { }

    private All all = new All("", 0, NONE, List.of(), List.of(), List.of(), List.of());
    private final All[] images = new All[3];

    private void set(String tape, int fault, int place) {
        all = new All(tape, fault, place, all.counties(), all.terms(), all.wants(), all.logs());
    }

    int feed(int a, int b, int c, int d, int e) {
        if (all.tape().length() + 20 > 600) return NONE;
        StringBuilder sb = new StringBuilder(all.tape());
        for (int x : new int[] {a, b, c, d, e}) {
            sb.append((char) (x >>> 24)).append((char) (x >>> 16 & 255)).append((char) (x >>> 8 & 255)).append((char) (x & 255));
        }
        set(sb.toString(), all.fault(), all.place());
        return sb.length();
    }

    int end(int n) {
        if (n < 0 || n > all.tape().length()) return NONE;
        set(all.tape().substring(0, n), all.fault(), all.place());
        return n;
    }

    // ---- texts

    /** The end by \z: $ would be found before a last byte 13 or 133, too, and no token would come any more. */
    private static final Pattern TOKEN = Pattern.compile("[ \\n]*(?:([a-z]+)|([0-9]+)|(;)|\\z)", Pattern.DOTALL);
    private static final String[][] LINES = {
        {"folk:wr", "hard:th", "clash:tt", "likes:ff", "oath:fft"},
        {"monday:", "tire:f", "rest:f", "visit:ff", "court:ff", "cut:ff", "swear:fft"},
        {"want:ft"},
        {"broke:ft", "kept:ft"}};

    private int faultNow, placeNow;

    private static int blanksFrom(String s, int i) {
        int j = i;
        while (j < s.length() && (s.charAt(j) == ' ' || s.charAt(j) == '\n')) j++;
        return j;
    }

    /** The lines of a text; null with FAULT 1. */
    private List<Line> parse(String s, int sort) {
        List<String> tokens = new ArrayList<>();
        List<Integer> places = new ArrayList<>();
        int at = 0;
        int badAt = -1;
        while (true) {
            Matcher m = TOKEN.matcher(s).region(at, s.length());
            int start = blanksFrom(s, at);
            places.add(start);
            if (start == s.length()) { tokens.add("END"); break; }
            if (!m.lookingAt() || m.group(2) != null && m.group(2).length() > 2) { tokens.add("BAD"); badAt = start; break; }
            tokens.add(s.substring(start, m.end()));
            at = m.end();
        }
        List<Line> lines = new ArrayList<>();
        List<int[]> faults = new ArrayList<>();
        int i = 0;
        while (!tokens.get(i).equals("END")) {
            String shape = null;
            for (String l : LINES[sort]) if (l.startsWith(tokens.get(i) + ":")) shape = l.substring(l.indexOf(':') + 1);
            if (shape == null) { faultNow = 1; placeNow = places.get(i); return null; }
            String word = tokens.get(i);
            long same = lines.stream().filter(l -> l.word().equals(word)).count();
            boolean tooMany = switch (sort) {
                case 0 -> word.equals("folk") && same >= 6 || word.equals("oath") && same >= 12;
                case 1 -> lines.size() >= 40;
                case 2 -> lines.size() >= 6;
                default -> lines.size() >= 8;
            };
            if (tooMany) faults.add(new int[] {places.get(i), 3});
            i++;
            int[] numbers = new int[shape.length()];
            for (int k = 0; k < shape.length(); k++, i++) {
                if (!tokens.get(i).matches("[0-9]+")) { faultNow = 1; placeNow = places.get(i); return null; }
                numbers[k] = Integer.parseInt(tokens.get(i));
                int most = switch (shape.charAt(k)) { case 'w', 'h' -> 9; case 'r' -> 4; case 't' -> 7; default -> 5; };
                boolean unlike = List.of("clash", "likes", "oath", "visit", "court", "cut", "swear").contains(word);
                if (numbers[k] > most || unlike && k == 1 && numbers[1] == numbers[0]) faults.add(new int[] {places.get(i), 2});
            }
            if (!tokens.get(i).equals(";")) { faultNow = 1; placeNow = places.get(i); return null; }
            i++;
            lines.add(new Line(word, numbers));
        }
        faults.sort((x, y) -> x[0] != y[0] ? x[0] - y[0] : x[1] - y[1]);
        if (!faults.isEmpty()) { faultNow = faults.get(0)[1]; placeNow = faults.get(0)[0]; return null; }
        return lines;
    }

    private static <T> List<T> with(List<T> list, int at, T x) {
        List<T> l = new ArrayList<>(list);
        if (at == l.size()) l.add(x); else l.set(at, x);
        return l;
    }

    int text(int sort, int at) {
        String s = all.tape();
        set("", 0, NONE);
        if (sort < 0 || sort > 3) return -2;
        int many = count(sort);
        if (at == NONE ? many >= 2 : at < 0 || at >= many) return -2;
        int number = at == NONE ? many : at;
        faultNow = 0;
        placeNow = NONE;
        List<Line> lines = parse(s, sort);
        Land land = null;
        if (lines != null && sort == 0) {
            land = build(lines);
            if (land == null) { faultNow = 4; placeNow = s.length(); }
        }
        set("", faultNow, placeNow);
        if (faultNow != 0) return NONE;
        all = new All("", 0, NONE,
            sort == 0 ? with(all.counties(), number, land) : all.counties(),
            sort == 1 ? with(all.terms(), number, lines) : all.terms(),
            sort == 2 ? with(all.wants(), number, lines) : all.wants(),
            sort == 3 ? with(all.logs(), number, lines) : all.logs());
        return number;
    }

    private static Land build(List<Line> lines) {
        Land l = new Land();
        for (Line x : lines) if (x.word().equals("folk")) l.folk.add(new Folk(x.numbers()[0], x.numbers()[1]));
        for (Line x : lines) {
            int[] v = x.numbers();
            switch (x.word()) {
                case "hard" -> l.hard[v[0]] = v[1];
                case "clash" -> { l.clash[v[0]][v[1]] = true; l.clash[v[1]][v[0]] = true; }
                case "likes" -> { if (!l.there(v[0]) || !l.there(v[1])) return null; l.likes[v[0]][v[1]] = true; }
                case "oath" -> { if (!l.there(v[0]) || !l.there(v[1])) return null; l.oaths.add(new Oath(v[0], v[1], v[2])); }
                default -> { }
            }
        }
        return l;
    }

    int fault(int what) { return what == 0 ? all.fault() : what == 1 ? all.place() : NONE; }

    int count(int sort) {
        return switch (sort) {
            case 0 -> all.counties().size();
            case 1 -> all.terms().size();
            case 2 -> all.wants().size();
            case 3 -> all.logs().size();
            default -> -2;
        };
    }

    private static <T> T get(List<T> list, int i) { return i >= 0 && i < list.size() ? list.get(i) : null; }

    private Land land(int county) { return get(all.counties(), county); }

    int county(int county, int what) {
        Land l = land(county);
        if (l == null) return NONE;
        if (what == 0) return l.n();
        if (what == 1) return l.oaths.size();
        for (int p = 0; p < l.n(); p++) {
            if (what == 10 + p) return l.folk.get(p).will();
            if (what == 20 + p) return l.folk.get(p).room();
            if (what == 30 + p) return l.likesBits(p);
        }
        for (int t = 0; t < 8; t++) {
            if (what == 40 + t) return l.hard[t];
            if (what == 50 + t) {
                int bits = 0;
                for (int u = 0; u < 8; u++) if (l.clash[t][u]) bits |= 1 << u;
                return bits;
            }
        }
        for (int k = 0; k < l.oaths.size(); k++) {
            if (what == 100 + k) return l.oaths.get(k).who();
            if (what == 200 + k) return l.oaths.get(k).whom();
            if (what == 300 + k) return l.oaths.get(k).thing();
        }
        return NONE;
    }

    int deed(int term, int k, int what) {
        List<Line> t = get(all.terms(), term);
        if (t == null || what < 0 || what > 3) return -2;
        if (k == NONE) return what == 0 ? t.size() : -2;
        Line d = get(t, k);
        if (d == null) return -2;
        if (what == 0) return List.of("monday", "tire", "rest", "visit", "court", "cut", "swear").indexOf(d.word());
        return what <= d.numbers().length ? d.numbers()[what - 1] : NONE;
    }

    private Land run(Land l, List<Line> deeds, int[] done) {
        Land s = l.copy();
        done[0] = 0;
        for (Line d : deeds) {
            if (!s.does(done[0], d)) break;
            done[0]++;
        }
        return s;
    }

    int stop(int county, int term) {
        Land l = land(county);
        List<Line> t = get(all.terms(), term);
        if (l == null || t == null) return NONE;
        int[] done = new int[1];
        run(l, t, done);
        return done[0];
    }

    int state(int county, int term, int n, int what) {
        int stop = stop(county, term);
        if (stop == NONE || n < 0 || n > stop) return NONE;
        return run(land(county), all.terms().get(term).subList(0, n), new int[1]).state(what);
    }

    int keeps(int county, int who, int what) {
        Land l = land(county);
        if (l == null || !l.there(who)) return -99;
        switch (what) {
            case 0: return l.sworn(who);
            case 1: return l.open(who);
            case 2: return l.keeps(who);
            case 3: {
                Land s = l.copy();
                int[] best = {1000};
                allVisits(s, who, 0, 0, best);
                return best[0] == 1000 ? NONE : best[0];
            }
            case 4: {
                int b = Integer.bitCount(l.keeps(who));
                for (Oath o : l.oaths) if (o.who() == who && l.broken(o)) b--;
                return b;
            }
            case 5:
                for (int d = 0; l.folk.get(who).will() + d <= 9; d++) {
                    Land s = l.copy();
                    s.folk.set(who, new Folk(l.folk.get(who).will() + d, l.folk.get(who).room()));
                    if (s.keeps(who) == s.sworn(who)) return d;
                }
                return NONE;
            default: return -99;
        }
    }

    private static void allVisits(Land s, int who, int by, int sum, int[] best) {
        if (sum >= best[0]) return;
        if (by == s.n()) {
            if (s.keeps(who) == s.sworn(who)) best[0] = sum;
            return;
        }
        // Visits of one who swore nothing for them would change nothing.
        int most = by != who && s.swore(by, who) ? 9 : 0;
        for (int v = 0; v <= most; v++) {
            s.visits[by][who] = v;
            allVisits(s, who, by + 1, sum + v, best);
        }
        s.visits[by][who] = 0;
    }

    private boolean two(Land l, int a, int b) { return l != null && l.there(a) && l.there(b) && a != b; }

    int heart(int county, int who, int whom) {
        Land l = land(county);
        return two(l, who, whom) ? l.heart(who, whom) : NONE;
    }

    private static Land without(Land l, int struck) {
        Land s = l.copy();
        s.oaths.clear();
        for (int k = 0; k < l.oaths.size(); k++) if ((struck >> k & 1) == 0) s.oaths.add(l.oaths.get(k));
        return s;
    }

    /** Calls back with each row of unlike ones, in the order of numbers, a row before those that it begins. */
    private static void rows(int n, List<Integer> row, Function<List<Integer>, Boolean> each) {
        if (!row.isEmpty() && !each.apply(row)) return;
        for (int p = 0; p < n; p++) {
            if (row.contains(p)) continue;
            row.add(p);
            rows(n, row, each);
            row.remove(row.size() - 1);
        }
    }

    int fall(int county, int what) {
        Land l = land(county);
        if (l == null) return -2;
        int bits = 0;
        switch (what) {
            case 0:
                for (Oath o : l.oaths) if (l.broken(o)) bits |= 1 << o.who();
                return bits;
            case 1, 2:
                int best = (1 << l.oaths.size()) - 1;
                for (int m = 0; m < 1 << l.oaths.size(); m++)
                    if (Integer.bitCount(m) < Integer.bitCount(best) && without(l, m).brokenMany() == 0) best = m;
                return what == 1 ? Integer.bitCount(best) : best;
            case 3, 4:
                int[] found = {99, 0};
                rows(l.n(), new ArrayList<>(), row -> {
                    int size = row.size();
                    for (int i = 0; i + 1 < size; i++) if (!l.swore(row.get(i), row.get(i + 1))) return false;
                    if (size >= 2 && l.swore(row.get(size - 1), row.get(0))) {
                        found[0] = Math.min(found[0], size);
                        for (int p : row) found[1] |= 1 << p;
                    }
                    return true;
                });
                return what == 4 ? found[1] : found[0] == 99 ? NONE : found[0];
            default: return -2;
        }
    }

    int want(int wants, int k, int what) {
        List<Line> w = get(all.wants(), wants);
        if (w == null || what < 0 || what > 1) return -2;
        if (k == NONE) return what == 0 ? w.size() : -2;
        Line d = get(w, k);
        return d == null ? -2 : d.numbers()[what];
    }

    private int swearBest;
    private int[] swearRow;

    private void allSwearers(Land l, List<Line> w, int[] row, int k) {
        if (k == w.size()) {
            Land s = l.copy();
            s.oaths.clear();
            for (int j = 0; j < k; j++) if (row[j] != 6) s.oaths.add(new Oath(row[j], w.get(j).numbers()[0], w.get(j).numbers()[1]));
            int[] kept = new int[6];
            for (int p = 0; p < s.n(); p++) kept[p] = s.oaths.isEmpty() ? 0 : s.keeps(p);
            int many = 0;
            for (Line x : w) many += kept[x.numbers()[0]] >> x.numbers()[1] & 1;
            if (many > swearBest) { swearBest = many; swearRow = row.clone(); }
            return;
        }
        for (int p = 0; p <= 6; p++) {
            boolean ok = p == 6 || p < l.n() && p != w.get(k).numbers()[0];
            for (int j = 0; j < k; j++) if (p != 6 && row[j] == p) ok = false;
            if (!ok) continue;
            row[k] = p;
            allSwearers(l, w, row, k + 1);
        }
    }

    int swearers(int county, int wants, int k) {
        Land l = land(county);
        List<Line> w = get(all.wants(), wants);
        if (l == null || w == null) return NONE;
        for (Line x : w) if (!l.there(x.numbers()[0])) return NONE;
        if (k != NONE && (k < 0 || k >= w.size())) return NONE;
        swearBest = -1;
        allSwearers(l, w, new int[w.size()], 0);
        return k == NONE ? swearBest : swearRow[k];
    }

    private static int dareValue(Land s, int a, int b, int turn, int n) {
        if (turn == n) return Integer.bitCount(s.keeps(b)) - Integer.bitCount(s.keeps(a));
        int who = turn % 2 == 0 ? a : b;
        int whom = who == a ? b : a;
        int best = who == a ? -100 : 100;
        for (int t = 0; t <= 8; t++) {
            Land then = s.copy();
            if (t < 8) then.oaths.add(new Oath(who, whom, t));
            int v = dareValue(then, a, b, turn + 1, n);
            best = who == a ? Math.max(best, v) : Math.min(best, v);
        }
        return best;
    }

    int dare(int county, int a, int b, int n, boolean first) {
        Land l = land(county);
        if (!two(l, a, b) || n < 0 || n > 3) return -9;
        if (!first) return dareValue(l, a, b, 0, n);
        if (n == 0) return NONE;
        int best = -100;
        int what = NONE;
        for (int t = 0; t <= 8; t++) {
            Land then = l.copy();
            if (t < 8) then.oaths.add(new Oath(a, b, t));
            int v = dareValue(then, a, b, 1, n);
            if (v > best) { best = v; what = t; }
        }
        return what;
    }

    int chance(int county, int a, int b, int thing, int p, int n, boolean under) {
        Land l = land(county);
        if (!two(l, a, b) || thing < 0 || thing > 7 || p < 0 || p > 10 || n < 0 || n > 6) return NONE;
        int good = 0;
        int every = 0;
        for (int m = 0; m < 1 << n; m++) {
            int weight = 1;
            for (int i = 0; i < n; i++) weight *= (m >> i & 1) == 1 ? p : 10 - p;
            every += weight;
            if (l.heart(a, b) + Integer.bitCount(m) >= l.hard[thing]) good += weight;
        }
        int d = every;
        while (good % d != 0 || every % d != 0) d--;
        return under ? every / d : good / d;
    }

    int fact(int log, int k, int what) {
        List<Line> f = get(all.logs(), log);
        if (f == null || what < 0 || what > 2) return -2;
        if (k == NONE) return what == 0 ? f.size() : -2;
        Line d = get(f, k);
        if (d == null) return -2;
        return what == 0 ? d.word().equals("kept") ? 1 : 0 : d.numbers()[what - 1];
    }

    int fits(int county, int log, int who, int what) {
        Land l = land(county);
        List<Line> facts = get(all.logs(), log);
        if (l == null || facts == null || !l.there(who)) return -2;
        List<Integer> fit = new ArrayList<>();
        List<Integer> keeps = new ArrayList<>();
        for (int x = 0; x < 100; x++) {
            if (x % 10 > 4) continue;
            Land s = l.copy();
            s.folk.set(who, new Folk(x / 10, x % 10));
            boolean so = true;
            for (Line f : facts) {
                if (!s.there(f.numbers()[0])) { so = false; continue; }
                boolean kept = (s.keeps(f.numbers()[0]) >> f.numbers()[1] & 1) == 1;
                if (kept != f.word().equals("kept")) so = false;
            }
            if (so) { fit.add(x); keeps.add(s.keeps(who)); }
        }
        if (what == 0) return fit.size();
        if (what >= 1 && what <= 5) {
            if (fit.isEmpty()) return NONE;
            int[] wills = fit.stream().mapToInt(x -> x / 10).toArray();
            int[] rooms = fit.stream().mapToInt(x -> x % 10).toArray();
            if (what == 1) return Arrays.stream(wills).distinct().count() == 1 ? wills[0] : NONE;
            if (what == 2) return Arrays.stream(rooms).distinct().count() == 1 ? rooms[0] : NONE;
            if (what == 4) return Arrays.stream(wills).min().getAsInt();
            if (what == 5) return Arrays.stream(wills).max().getAsInt();
            int best = 0;
            int least = 1000;
            for (int t = 0; t < 8; t++) {
                int yes = 0;
                for (int k : keeps) yes += k >> t & 1;
                int greater = Math.max(yes, fit.size() - yes);
                if (greater < least) { least = greater; best = t; }
            }
            return best;
        }
        Integer k = what >= 10 ? get(fit, what - 10) : null;
        return k == null ? -2 : k;
    }

    private long x;

    private int draw(int below) {
        x = (x * 1103515245L + 12345L) & 0xffffffffL;
        return (int) ((x >> 16) % below);
    }

    int drawn(int county, int seed, int n, int what) {
        Land l = land(county);
        if (l == null || n < 0 || n > 60) return NONE;
        Land s = l.copy();
        x = seed & 0xffffffffL;
        int all = s.n();
        for (int i = 0; i < n; i++) {
            int lot = draw(10);
            if (lot == 9) { s.does(i, new Line("monday", new int[0])); continue; }
            if (lot == 8) {
                if (all == 0) continue;
                int p = draw(all);
                s.does(i, new Line(draw(2) % 2 == 0 ? "tire" : "rest", new int[] {p}));
                continue;
            }
            if (all < 2) continue;
            int a = draw(all);
            int b = (a + 1 + draw(all - 1)) % all;
            if (lot <= 3) s.does(i, new Line("swear", new int[] {a, b, draw(8)}));
            else s.does(i, new Line(lot <= 5 ? "visit" : lot == 6 ? "court" : "cut", new int[] {a, b}));
        }
        return s.state(what);
    }

    private static int mostOf(int[] many) {
        int best = NONE;
        int most = 0;
        for (int i = 0; i < many.length; i++) if (many[i] > most) { most = many[i]; best = i; }
        return best;
    }

    int lone(int county, int what) {
        Land l = land(county);
        if (l == null) return -2;
        int[] by = new int[6];
        int[] of = new int[6];
        int[] liked = new int[6];
        for (Oath o : l.oaths) { by[o.who()]++; of[o.whom()]++; }
        for (int p = 0; p < 6; p++) for (int q = 0; q < 6; q++) if (l.likes[p][q]) liked[q]++;
        int bits = 0;
        switch (what) {
            case 0: for (int p = 0; p < l.n(); p++) if (of[p] == 0) bits |= 1 << p; return bits;
            case 1: for (int p = 0; p < l.n(); p++) if (by[p] == 0) bits |= 1 << p; return bits;
            case 2: return mostOf(by);
            case 3: return mostOf(of);
            case 4:
                for (int p = 0; p < 6; p++) for (int q = 0; q < p; q++) if (l.swore(p, q) && l.swore(q, p)) bits++;
                return bits;
            case 5: return mostOf(liked);
            case 6, 7:
                for (int set = 0; set < 256; set++) if (l.peaceful(set) && Integer.bitCount(set) > Integer.bitCount(bits)) bits = set;
                return what == 6 ? Integer.bitCount(bits) : bits;
            case 8:
                for (int t = 0; t < 8; t++) if (l.hard[t] > l.hard[bits]) bits = t;
                return bits;
            case 9:
                for (int k = 0; k < l.oaths.size(); k++) if (!l.broken(l.oaths.get(k))) bits |= 1 << k;
                return bits;
            case 10:
                for (int k = 0; k < l.oaths.size(); k++) {
                    int others = l.brokenMany() - (l.broken(l.oaths.get(k)) ? 1 : 0);
                    if (without(l, 1 << k).brokenMany() < others) bits |= 1 << k;
                }
                return bits;
            case 11, 12: return more(l, what == 12);
            case 13, 14, 15: return weak(l, what);
            default: return -2;
        }
    }

    private static int more(Land l, boolean first) {
        int many = 0;
        int least = NONE;
        for (int code = 0; code < 600; code++) {
            Oath o = new Oath(code / 100, code / 10 % 10, code % 10);
            if (!l.there(o.who()) || !l.there(o.whom()) || o.who() == o.whom() || o.thing() > 7 || l.oaths.contains(o)) continue;
            Land then = l.copy();
            then.oaths.add(o);
            boolean good = !then.broken(o);
            for (Oath other : l.oaths) if (then.broken(other) && !l.broken(other)) good = false;
            if (!good) continue;
            many++;
            if (least == NONE) least = code;
        }
        return first ? least : many;
    }

    private static int weak(Land l, int what) {
        int who = NONE;
        double part = 2;
        for (int p = 0; p < l.n(); p++) {
            if (l.sworn(p) == 0) continue;
            double q = (double) Integer.bitCount(l.keeps(p)) / Integer.bitCount(l.sworn(p));
            if (q < part - 1e-9) { part = q; who = p; }
        }
        if (who == NONE || what == 13) return who;
        int d = 1;
        while (Math.abs(part * d - Math.round(part * d)) > 1e-9) d++;
        return what == 14 ? (int) Math.round(part * d) : d;
    }

    int chain(int county, int k) {
        Land l = land(county);
        if (l == null) return NONE;
        List<Integer> best = new ArrayList<>();
        rows(l.n(), new ArrayList<>(), row -> {
            for (int i = 0; i + 1 < row.size(); i++) if (!l.swore(row.get(i), row.get(i + 1))) return false;
            if (row.size() > best.size()) { best.clear(); best.addAll(row); }
            return true;
        });
        if (k == NONE) return best.size();
        return k < 0 || k >= best.size() ? NONE : best.get(k);
    }

    int steps(int county, int from, int to) {
        Land l = land(county);
        if (l == null || !l.there(from) || !l.there(to)) return NONE;
        if (from == to) return 0;
        int[] best = {99};
        rows(l.n(), new ArrayList<>(), row -> {
            if (row.get(0) != from) return false;
            for (int i = 0; i + 1 < row.size(); i++) if (!l.likes[row.get(i)][row.get(i + 1)]) return false;
            if (row.get(row.size() - 1) == to) best[0] = Math.min(best[0], row.size() - 1);
            return true;
        });
        return best[0] == 99 ? NONE : best[0];
    }

    int after(int county, int term, int what) {
        Land l = land(county);
        List<Line> t = get(all.terms(), term);
        if (l == null || t == null) return -2;
        Land s = run(l, t, new int[1]);
        switch (what) {
            case 0: return s.first;
            case 1: {
                int[] many = new int[6];
                for (int p = 0; p < 6; p++) many[p] = s.visitsTo(p);
                return mostOf(many);
            }
            case 2: return s.best;
            case 3: {
                int many = 0;
                for (int p = 0; p < 6; p++) many += Integer.bitCount(s.likesBits(p));
                return many;
            }
            case 4: return s.sworn;
            default: return -2;
        }
    }

    boolean image(int k) {
        if (k < 0 || k > 2) return false;
        images[k] = all;
        return true;
    }

    boolean again(int k) {
        if (k < 0 || k > 2 || images[k] == null) return false;
        all = images[k];
        return true;
    }
}
