import java.util.Random;

/** Random runs of calls, each answer held against PlainCounty's. */
public final class RandomRunsTest {
    private static int wrong = 0;
    private static long calls = 0;

    private final Random random;
    private final SwornCounty one = new SwornCounty();
    private final PlainCounty other = new PlainCounty();
    private final int run;

    private RandomRunsTest(int run) {
        this.run = run;
        random = new Random(run);
    }

    private void same(String call, long got, long want) {
        calls++;
        if (got != want) {
            wrong++;
            if (wrong < 40) System.out.println("run " + run + ": " + call + " answered " + got + ", due is " + want);
        }
    }

    private int below(int n) { return random.nextInt(n); }

    /** Mostly a number that is there, now and then one that is not. */
    private int near(int n) {
        int lot = below(30);
        return lot == 0 ? -1 : lot == 1 ? n : lot == 2 ? (below(2) == 0 ? Integer.MIN_VALUE : Integer.MAX_VALUE) : below(Math.max(n, 1));
    }

    private String two(int n) {
        int a = below(n);
        int b = below(n);
        if (a == b && below(40) != 0) b = (a + 1) % Math.max(n, 1);
        return a + " " + b;
    }

    private String blank() {
        String[] blanks = {" ", " ", " ", "\n", "  "};
        return blanks[below(blanks.length)];
    }

    private String county() {
        StringBuilder sb = new StringBuilder();
        int folk = below(12) == 0 ? below(8) : 2 + below(5);
        int generous = below(3);
        for (int i = 0; i < folk; i++) sb.append("folk ").append(generous == 0 ? 5 + below(5) : below(10)).append(' ')
            .append(generous == 1 ? 2 + below(3) : below(5)).append(';');
        int hards = below(8);
        for (int i = 0; i < hards; i++) sb.append("hard ").append(below(8)).append(' ').append(below(10)).append(';');
        int clashes = below(2) == 0 ? below(4) : below(12);
        for (int i = 0; i < clashes; i++) sb.append("clash ").append(two(8)).append(';');
        int n = Math.max(1, Math.min(folk, 6));
        int likes = below(10);
        for (int i = 0; i < likes && n > 1; i++) sb.append("likes ").append(two(n)).append(';');
        int oaths = below(3) == 0 ? below(4) : below(13);
        int few = 1 + below(8);
        int bound = below(4) == 0 ? below(n) : -1;
        for (int i = 0; i < oaths && n > 1; i++) {
            String pair = bound < 0 ? two(n) : (bound + 1 + below(n - 1)) % n + " " + bound;
            sb.append("oath ").append(pair).append(' ').append(below(few)).append(';');
        }
        return sb.toString();
    }

    private String term() {
        StringBuilder sb = new StringBuilder();
        int deeds = below(6) == 0 ? below(43) : below(15);
        int n = below(8) == 0 ? 6 : 2 + below(3);
        for (int i = 0; i < deeds; i++) {
            switch (below(12)) {
                case 0 -> sb.append("monday;");
                case 1 -> sb.append("tire ").append(below(n)).append(';');
                case 2 -> sb.append("rest ").append(below(n)).append(';');
                case 3, 4, 5, 6 -> sb.append("visit ").append(two(n)).append(';');
                case 7 -> sb.append("court ").append(two(n)).append(';');
                case 8 -> sb.append("cut ").append(two(n)).append(';');
                default -> sb.append("swear ").append(two(n)).append(' ').append(below(8)).append(';');
            }
        }
        return sb.toString();
    }

    private String wants() {
        StringBuilder sb = new StringBuilder();
        int many = below(20) == 0 ? 7 : below(7);
        int n = 1 + below(6);
        int few = 1 + below(8);
        for (int i = 0; i < many; i++) sb.append("want ").append(below(n)).append(' ').append(below(few)).append(';');
        return sb.toString();
    }

    private String log() {
        StringBuilder sb = new StringBuilder();
        int many = below(20) == 0 ? 9 : below(5);
        int n = 1 + below(4);
        for (int i = 0; i < many; i++) {
            int p = below(n);
            int t = below(8);
            // Mostly what is so, or no log would fit.
            int kept = other.keeps(0, p, 2);
            boolean so = kept >= 0 && (kept >> t & 1) == 1;
            sb.append(so == (below(6) != 0) ? "kept " : "broke ").append(p).append(' ').append(t).append(';');
        }
        return sb.toString();
    }

    /** Now and then a text that is spoilt, or has other blanks. */
    private String spoil(String text) {
        int lot = below(10);
        if (text.isEmpty() || lot > 4) return text;
        int i = below(text.length());
        String odd = ";; 0123456789abfkz\n\t#\u00e9A-";
        char c = odd.charAt(below(odd.length()));
        if (lot == 0) return text.substring(0, i) + c + text.substring(i);
        if (lot == 1) return text.substring(0, i) + text.substring(i + 1);
        if (lot == 2) return text.substring(0, i);
        if (lot == 3) return text.replace(" ", blank()).replace(";", blank() + ";" + blank());
        return text.substring(0, i) + c + text.substring(i + 1);
    }

    private void tell(String text) {
        int n = Math.min(text.length(), 600);
        for (int i = 0; i < n; i += 20) {
            int[] x = new int[5];
            for (int k = 0; k < 20; k++) {
                int b = i + k < n ? text.charAt(i + k) : below(256);
                x[k / 4] = x[k / 4] << 8 | b;
            }
            same("feed", one.feed(x[0], x[1], x[2], x[3], x[4]), other.feed(x[0], x[1], x[2], x[3], x[4]));
        }
        int e = below(40) == 0 ? near(n + 5) : n;
        same("end " + e, one.end(e), other.end(e));
    }

    private void text(int sort, int at) {
        same("text " + sort + " " + at, one.text(sort, at), other.text(sort, at));
        for (int w = -1; w <= 2; w++) same("fault " + w, one.fault(w), other.fault(w));
        for (int s = -1; s <= 4; s++) same("count " + s, one.count(s), other.count(s));
    }

    private void tellSome(int sort) {
        if (below(2) == 0) same("end 0", one.end(0), other.end(0));
        String s = sort == 0 ? county() : sort == 1 ? term() : sort == 2 ? wants() : log();
        tell(spoil(s));
        int at = below(3) == 0 ? below(2) : below(12) == 0 ? near(2) : -1;
        if (at < 0 && other.count(sort) == 2 && below(4) != 0) at = below(2);
        text(sort, at);
    }

    private void askCounty() {
        int c = near(Math.max(1, other.count(0)));
        int n = 6;
        int p = near(n);
        int q = near(n);
        int w = below(340);
        same("county " + w, one.county(c, w), other.county(c, w));
        w = near(60);
        same("county " + w, one.county(c, w), other.county(c, w));
        for (w = -1; w <= 6; w++) same("keeps " + c + " " + p + " " + w, one.keeps(c, p, w), other.keeps(c, p, w));
        same("heart", one.heart(c, p, q), other.heart(c, p, q));
        for (w = -1; w <= 5; w++) same("fall " + w, one.fall(c, w), other.fall(c, w));
        for (w = -1; w <= 16; w++) same("lone " + w, one.lone(c, w), other.lone(c, w));
        for (w = -2; w <= 6; w++) same("chain " + w, one.chain(c, w), other.chain(c, w));
        same("steps " + p + " " + q, one.steps(c, p, q), other.steps(c, p, q));
        int m = below(5) == 0 ? near(4) : below(3);
        boolean b = random.nextBoolean();
        same("dare " + m + b, one.dare(c, p, q, m, b), other.dare(c, p, q, m, b));
        int t = near(8);
        int chance = near(11);
        m = near(7);
        same("chance", one.chance(c, p, q, t, chance, m, b), other.chance(c, p, q, t, chance, m, b));
        same("chance", one.chance(c, p, q, t, chance, m, !b), other.chance(c, p, q, t, chance, m, !b));
        int seed = random.nextInt();
        m = below(10) == 0 ? near(61) : below(61);
        for (int k = 0; k < 4; k++) {
            w = near(56);
            same("drawn " + seed + " " + m + " " + w, one.drawn(c, seed, m, w), other.drawn(c, seed, m, w));
        }
    }

    private void askTogether() {
        int c = near(Math.max(1, other.count(0)));
        int t = near(Math.max(1, other.count(1)));
        int n = near(8);
        for (int w = -1; w <= 5; w++) same("after " + w, one.after(c, t, w), other.after(c, t, w));
        same("stop", one.stop(c, t), other.stop(c, t));
        for (int k = 0; k < 8; k++) {
            int w = near(56);
            same("state " + n + " " + w, one.state(c, t, n, w), other.state(c, t, n, w));
            n = other.stop(c, t) + below(2);
        }
        int k = near(12);
        for (int w = -1; w <= 4; w++) {
            same("deed", one.deed(t, k, w), other.deed(t, k, w));
            same("deed", one.deed(t, -1, w), other.deed(t, -1, w));
        }
        int v = near(Math.max(1, other.count(2)));
        int g = near(Math.max(1, other.count(3)));
        for (int w = -1; w <= 3; w++) {
            same("want", one.want(v, k - 3, w), other.want(v, k - 3, w));
            same("want", one.want(v, -1, w), other.want(v, -1, w));
            same("fact", one.fact(g, k - 3, w), other.fact(g, k - 3, w));
            same("fact", one.fact(g, -1, w), other.fact(g, -1, w));
        }
        if (below(3) == 0) for (int w = -2; w <= 6; w++) same("swearers " + w, one.swearers(c, v, w), other.swearers(c, v, w));
        int p = near(6);
        for (int w = 0; w <= 5; w++) same("fits " + p + " " + w, one.fits(c, g, p, w), other.fits(c, g, p, w));
        if (below(3) == 0) for (int w = -1; w <= 14; w++) same("fits " + p + " " + w, one.fits(c, g, p, w), other.fits(c, g, p, w));
        int w = 10 + near(50);
        same("fits", one.fits(c, g, p, w), other.fits(c, g, p, w));
    }

    private void go() {
        for (int i = 0; i < 14; i++) {
            int lot = below(10);
            if (lot < 6) tellSome(lot < 3 ? 0 : lot - 2);
            else if (lot == 6) {
                int k = below(4) == 0 ? near(3) : below(2);
                same("image", one.image(k) ? 1 : 0, other.image(k) ? 1 : 0);
            } else if (lot == 7) {
                int k = below(4) == 0 ? near(3) : below(2);
                same("again", one.again(k) ? 1 : 0, other.again(k) ? 1 : 0);
            } else if (lot == 8) {
                tell(log());
                if (below(3) != 0) text(near(4), near(3));
            }
            if (i > 3) {
                askCounty();
                askTogether();
            }
        }
    }

    public static void main(String[] args) {
        int from = args.length > 0 ? Integer.parseInt(args[0]) : 0;
        int runs = args.length > 1 ? Integer.parseInt(args[1]) : 400;
        for (int run = from; run < from + runs; run++) new RandomRunsTest(run).go();
        System.out.println(calls + " calls held against the plain county, " + wrong + " wrong");
        if (wrong != 0) System.exit(1);
    }
}
