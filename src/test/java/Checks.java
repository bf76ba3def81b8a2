import java.util.function.IntPredicate;
import java.util.function.IntUnaryOperator;

/** What the tests share: telling texts, and answers that are due. */
final class Checks {
    /** Numbers that are far from all that may be. */
    static final int[] FAR = {Integer.MIN_VALUE, Integer.MIN_VALUE + 1, -65536, -1000, 1000, 65536, Integer.MAX_VALUE - 1, Integer.MAX_VALUE};

    private int wrong = 0;
    private int made = 0;

    void due(String call, long want, long got) {
        made++;
        if (got != want) {
            wrong++;
            System.out.println(call + " answered " + got + ", due is " + want);
        }
    }

    void due(String call, boolean want, boolean got) {
        due(call, want ? 1 : 0, got ? 1 : 0);
    }

    /** Whatever number may not be asked with is answered so; fewer calls than the 512 that an object is for. */
    void others(String call, long want, IntPredicate may, IntUnaryOperator ask) {
        for (int n = -12; n <= 412; n++) if (!may.test(n)) due(call + " by " + n, want, ask.applyAsInt(n));
        for (int n : FAR) if (!may.test(n)) due(call + " by " + n, want, ask.applyAsInt(n));
    }

    /** Numbers from the one up to the other, both of them, may be asked with: all others are answered so. */
    void outside(int from, int to, String call, long want, IntUnaryOperator ask) {
        others(call, want, n -> n >= from && n <= to, ask);
    }

    /** Prints how many answers were as due and ends with exit code 1 if one was not. */
    void close(String name) {
        System.out.println(name + ": " + (made - wrong) + " of " + made + " answers as due");
        if (wrong != 0) System.exit(1);
    }

    /** Puts a text behind the tape. */
    static void feed(SwornCounty x, String text) {
        int before = 0;
        for (int i = 0; i < text.length(); i += 20) {
            int[] n = new int[5];
            for (int k = 0; k < 20; k++) n[k / 4] = n[k / 4] << 8 | (i + k < text.length() ? text.charAt(i + k) : 0);
            before = x.feed(n[0], n[1], n[2], n[3], n[4]) - 20;
            if (i + 20 >= text.length()) x.end(before + text.length() - i);
        }
    }

    static int tell(SwornCounty x, int sort, int at, String text) {
        x.end(0);
        feed(x, text);
        return x.text(sort, at);
    }

    /** A new object with texts of the sorts 0, 1, 2 and 3; null for none. */
    static SwornCounty with(String county, String term, String wants, String log) {
        SwornCounty x = new SwornCounty();
        String[] texts = {county, term, wants, log};
        for (int sort = 0; sort < 4; sort++) {
            if (texts[sort] != null && tell(x, sort, SwornCounty.NONE, texts[sort]) != 0) {
                throw new IllegalStateException("not taken: " + texts[sort]);
            }
        }
        return x;
    }

    static SwornCounty with(String county) {
        return with(county, null, null, null);
    }

    static String times(String text, int n) {
        return text.repeat(n);
    }
}
