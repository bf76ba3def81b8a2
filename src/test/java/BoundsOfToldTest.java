import java.util.Arrays;
import java.util.function.IntUnaryOperator;

/** Promises 6, 7, 13 and 17: all that county(), deed(), want() and fact() may be asked, and all that they may not. */
public final class BoundsOfToldTest {
    private static final int NONE = SwornCounty.NONE;
    private static final Checks C = new Checks();
    private static final int[][] NO_ROWS = {};

    public static void main(String[] args) {
        countyOfNobody();
        countyOfOne();
        countyOfSixAndTwelve();
        countyAtBounds();
        laterOnesStrike();
        noSuchCounty();
        deedsAtBounds();
        deedsOfEachKind();
        noSuchDeed();
        wantsAtBounds();
        factsAtBounds();
        twoOfEachSort();
        C.close("BoundsOfToldTest");
    }

    /** Asks for every what; those that are not put among the due ones are NONE. */
    private static void countyIs(String text, int[][] folk, int[] likes, int[] hard, int[] clash, int[][] oaths) {
        int[] due = new int[413];
        Arrays.fill(due, NONE);
        due[0] = folk.length;
        due[1] = oaths.length;
        for (int p = 0; p < folk.length; p++) {
            due[10 + p] = folk[p][0];
            due[20 + p] = folk[p][1];
            due[30 + p] = likes[p];
        }
        for (int t = 0; t < 8; t++) {
            due[40 + t] = hard[t];
            due[50 + t] = clash[t];
        }
        for (int k = 0; k < oaths.length; k++) for (int i = 0; i < 3; i++) due[100 * (i + 1) + k] = oaths[k][i];
        SwornCounty x = Checks.with(text);
        for (int what = 0; what < due.length; what++) C.due("6 county " + what, due[what], x.county(0, what));
        SwornCounty y = Checks.with(text);
        C.others("6 NONE for another what", NONE, what -> what >= 0 && what < 400, what -> y.county(0, what));
    }

    private static void countyOfNobody() {
        int[] five = {5, 5, 5, 5, 5, 5, 5, 5};
        countyIs("", NO_ROWS, new int[0], five, new int[8], NO_ROWS);
        countyIs("hard 0 0;hard 7 9;clash 0 7;", NO_ROWS, new int[0], new int[] {0, 5, 5, 5, 5, 5, 5, 9},
            new int[] {128, 0, 0, 0, 0, 0, 0, 1}, NO_ROWS);
    }

    private static void countyOfOne() {
        int[] five = {5, 5, 5, 5, 5, 5, 5, 5};
        countyIs("folk 0 0;", new int[][] {{0, 0}}, new int[1], five, new int[8], NO_ROWS);
        countyIs("folk 9 4;", new int[][] {{9, 4}}, new int[1], five, new int[8], NO_ROWS);
    }

    private static void countyOfSixAndTwelve() {
        int[][] folk = {{0, 4}, {9, 0}, {1, 3}, {8, 1}, {5, 2}, {4, 4}};
        int[] hard = {9, 0, 8, 1, 7, 2, 6, 3};
        int[][] oaths = {{0, 1, 0}, {0, 5, 7}, {5, 0, 7}, {5, 4, 0}, {2, 3, 4}, {3, 2, 3}, {1, 0, 1}, {4, 5, 6}, {2, 0, 5},
            {0, 1, 0}, {1, 5, 2}, {5, 1, 7}};
        StringBuilder sb = new StringBuilder();
        for (int[] f : folk) sb.append("folk ").append(f[0]).append(' ').append(f[1]).append(';');
        for (int t = 0; t < 8; t++) sb.append("hard ").append(t).append(' ').append(hard[t]).append(';');
        for (int[] o : oaths) sb.append("oath ").append(o[0]).append(' ').append(o[1]).append(' ').append(o[2]).append(';');
        sb.append("likes 0 5;likes 5 0;likes 5 4;likes 3 1;clash 0 7;clash 7 6;clash 3 4;clash 0 3;");
        countyIs(sb.toString(), folk, new int[] {32, 0, 0, 2, 0, 17}, hard, new int[] {136, 0, 0, 17, 8, 0, 128, 65}, oaths);
    }

    /** As many FOLK and OATHS as there are may be asked for, and no one more. */
    private static void countyAtBounds() {
        for (int many = 0; many <= 6; many++) {
            SwornCounty x = Checks.with(Checks.times("folk 3 2;", many));
            C.due("6 FOLK", many, x.county(0, 0));
            for (int p = 0; p <= 9; p++) {
                C.due("6 WILL " + p + " of " + many, p < many ? 3 : NONE, x.county(0, 10 + p));
                C.due("6 ROOM " + p + " of " + many, p < many ? 2 : NONE, x.county(0, 20 + p));
                C.due("6 LIKES " + p + " of " + many, p < many ? 0 : NONE, x.county(0, 30 + p));
            }
        }
        for (int many = 0; many <= 12; many++) {
            SwornCounty x = Checks.with("folk 0 0;folk 0 0;" + Checks.times("oath 1 0 6;", many));
            C.due("6 OATHS", many, x.county(0, 1));
            for (int k = 0; k <= 13; k++) {
                C.due("6 who SWORE " + k + " of " + many, k < many ? 1 : NONE, x.county(0, 100 + k));
                C.due("6 who is BOUND " + k + " of " + many, k < many ? 0 : NONE, x.county(0, 200 + k));
                C.due("6 the THING " + k + " of " + many, k < many ? 6 : NONE, x.county(0, 300 + k));
            }
        }
    }

    /** "Later ones strike (hard), but all others, which are further ones." */
    private static void laterOnesStrike() {
        SwornCounty x = Checks.with("folk 1 1;folk 1 1;hard 7 9;hard 7 0;hard 0 0;hard 0 0;hard 0 9;oath 0 1 3;oath 0 1 3;"
            + "likes 0 1;likes 0 1;clash 2 3;clash 2 3;clash 3 2;");
        C.due("1 hard: the later", 0, x.county(0, 47));
        C.due("1 hard: the latest", 9, x.county(0, 40));
        C.due("1 the same FOLK again", 2, x.county(0, 0));
        C.due("1 the same OATH again", 2, x.county(0, 1));
        C.due("1 LIKES twice", 2, x.county(0, 30));
        C.due("1 LIKES one way", 0, x.county(0, 31));
        C.due("1 CLASH thrice", 8, x.county(0, 52));
        C.due("1 CLASH both ways", 4, x.county(0, 53));
    }

    private static void noSuchCounty() {
        for (int many = 0; many <= 2; many++) {
            SwornCounty x = new SwornCounty();
            for (int i = 0; i < many; i++) Checks.tell(x, 0, NONE, "folk 1 1;folk 1 1;likes 0 1;oath 0 1 0;");
            C.outside(0, many - 1, "6 no such county of " + many, NONE, c -> x.county(c, 0));
            for (int what : new int[] {1, 10, 20, 30, 40, 50, 100, 200, 300}) {
                C.due("6 no such county", NONE, x.county(many, what));
                C.due("6 no such county", NONE, x.county(-1, what));
            }
        }
    }

    /** Asks with every k and every what near, and with far ones: all but those of the rows are -2. */
    private static void rowsAre(String call, int[][] rows, int answers, IntUnaryOperator[] ask) {
        for (int what = -2; what <= 5; what++) {
            IntUnaryOperator of = ask[what + 2];
            for (int k = -3; k <= rows.length + 2; k++) {
                int due = -2;
                if (k == NONE && what == 0) due = rows.length;
                if (k >= 0 && k < rows.length && what >= 0 && what < answers) due = rows[k][what];
                C.due(call + " k " + k + " what " + what, due, of.applyAsInt(k));
            }
            for (int far : Checks.FAR) C.due(call + " k " + far + " what " + what, -2, of.applyAsInt(far));
        }
    }

    private static void deedsAre(String text, int[][] rows) {
        IntUnaryOperator[] ask = new IntUnaryOperator[8];
        for (int what = -2; what <= 5; what++) {
            int w = what;
            SwornCounty x = Checks.with(null, text, null, null);
            ask[what + 2] = k -> x.deed(0, k, w);
        }
        rowsAre("7 deed", rows, 4, ask);
        SwornCounty x = Checks.with(null, text, null, null);
        C.outside(0, 3, "7 for another what", -2, what -> x.deed(0, 0, what));
        SwornCounty y = Checks.with(null, text, null, null);
        C.outside(0, 0, "7 how many by what 0 alone", -2, what -> y.deed(0, NONE, what));
    }

    private static void deedsAtBounds() {
        int[] monday = {0, NONE, NONE, NONE};
        for (int many : new int[] {0, 1, 2, 39, 40}) {
            int[][] rows = new int[many][];
            Arrays.fill(rows, monday);
            deedsAre(Checks.times("monday;", many), rows);
        }
    }

    private static void deedsOfEachKind() {
        deedsAre("monday;tire 0;tire 5;rest 0;rest 5;visit 0 5;visit 5 0;court 0 5;court 5 0;cut 0 5;cut 5 0;swear 0 5 0;swear 5 0 7;",
            new int[][] {{0, NONE, NONE, NONE}, {1, 0, NONE, NONE}, {1, 5, NONE, NONE}, {2, 0, NONE, NONE}, {2, 5, NONE, NONE},
                {3, 0, 5, NONE}, {3, 5, 0, NONE}, {4, 0, 5, NONE}, {4, 5, 0, NONE}, {5, 0, 5, NONE}, {5, 5, 0, NONE}, {6, 0, 5, 0}, {6, 5, 0, 7}});
    }

    private static void noSuchDeed() {
        for (int many = 0; many <= 2; many++) {
            for (int k = NONE; k <= 0; k++) {
                int of = k;
                SwornCounty x = new SwornCounty();
                for (int i = 0; i < many; i++) Checks.tell(x, 1, NONE, "monday;");
                for (int i = 0; i < many; i++) C.due("7 a TERM", k == NONE ? 1 : 0, x.deed(i, k, 0));
                C.outside(0, many - 1, "7 no such TERM of " + many, -2, term -> x.deed(term, of, 0));
            }
        }
    }

    private static void wantsAre(String text, int[][] rows) {
        IntUnaryOperator[] ask = new IntUnaryOperator[8];
        for (int what = -2; what <= 5; what++) {
            int w = what;
            SwornCounty x = Checks.with(null, null, text, null);
            ask[what + 2] = k -> x.want(0, k, w);
        }
        rowsAre("13 want", rows, 2, ask);
        SwornCounty x = Checks.with(null, null, text, null);
        C.outside(0, 1, "13 for another what", -2, what -> x.want(0, 0, what));
        SwornCounty y = Checks.with(null, null, text, null);
        C.outside(0, 0, "13 how many by what 0 alone", -2, what -> y.want(0, NONE, what));
    }

    private static void wantsAtBounds() {
        wantsAre("", NO_ROWS);
        wantsAre("want 5 7;", new int[][] {{5, 7}});
        wantsAre("want 0 0;want 1 7;want 2 6;want 3 5;want 4 4;", new int[][] {{0, 0}, {1, 7}, {2, 6}, {3, 5}, {4, 4}});
        wantsAre("want 0 7;want 0 7;want 5 0;want 5 0;want 4 1;want 3 2;", new int[][] {{0, 7}, {0, 7}, {5, 0}, {5, 0}, {4, 1}, {3, 2}});
        for (int many = 0; many <= 2; many++) {
            for (int k = NONE; k <= 0; k++) {
                int of = k;
                SwornCounty x = new SwornCounty();
                for (int i = 0; i < many; i++) Checks.tell(x, 2, NONE, "want 5 7;");
                for (int i = 0; i < many; i++) C.due("13 a text", k == NONE ? 1 : 5, x.want(i, k, 0));
                C.outside(0, many - 1, "13 no such text of " + many, -2, wants -> x.want(wants, of, 0));
            }
        }
    }

    private static void factsAre(String text, int[][] rows) {
        IntUnaryOperator[] ask = new IntUnaryOperator[8];
        for (int what = -2; what <= 5; what++) {
            int w = what;
            SwornCounty x = Checks.with(null, null, null, text);
            ask[what + 2] = k -> x.fact(0, k, w);
        }
        rowsAre("17 fact", rows, 3, ask);
        SwornCounty x = Checks.with(null, null, null, text);
        C.outside(0, 2, "17 for another what", -2, what -> x.fact(0, 0, what));
        SwornCounty y = Checks.with(null, null, null, text);
        C.outside(0, 0, "17 how many by what 0 alone", -2, what -> y.fact(0, NONE, what));
    }

    private static void factsAtBounds() {
        factsAre("", NO_ROWS);
        factsAre("kept 5 7;", new int[][] {{1, 5, 7}});
        factsAre("broke 0 0;", new int[][] {{0, 0, 0}});
        String seven = "kept 0 0;kept 0 7;kept 5 0;broke 5 7;broke 0 7;broke 4 3;broke 4 3;";
        int[][] rows = {{1, 0, 0}, {1, 0, 7}, {1, 5, 0}, {0, 5, 7}, {0, 0, 7}, {0, 4, 3}, {0, 4, 3}, {1, 3, 4}};
        factsAre(seven, Arrays.copyOf(rows, 7));
        factsAre(seven + "kept 3 4;", rows);
        for (int many = 0; many <= 2; many++) {
            for (int k = NONE; k <= 0; k++) {
                int of = k;
                SwornCounty x = new SwornCounty();
                for (int i = 0; i < many; i++) Checks.tell(x, 3, NONE, "broke 5 7;");
                for (int i = 0; i < many; i++) C.due("17 a LOG", k == NONE ? 1 : 0, x.fact(i, k, 0));
                C.outside(0, many - 1, "17 no such LOG of " + many, -2, log -> x.fact(log, of, 0));
            }
        }
    }

    /** With as many of all sorts as may be, one beyond those of a sort is none of another sort. */
    private static void twoOfEachSort() {
        SwornCounty x = new SwornCounty();
        for (int i = 0; i < 2; i++) {
            Checks.tell(x, 0, NONE, "folk 1 1;folk 1 1;");
            Checks.tell(x, 1, NONE, "monday;tire 0;");
            Checks.tell(x, 2, NONE, "want 0 0;");
            Checks.tell(x, 3, NONE, "broke 0 0;");
        }
        for (int n = -3; n <= 4; n++) {
            boolean there = n == 0 || n == 1;
            C.due("6 county " + n, there ? 2 : NONE, x.county(n, 0));
            C.due("7 deed " + n, there ? 2 : -2, x.deed(n, NONE, 0));
            C.due("7 deed " + n, there ? 0 : -2, x.deed(n, 0, 0));
            C.due("8 stop " + n, there ? 2 : NONE, x.stop(0, n));
            C.due("9 state " + n, there ? 0 : NONE, x.state(0, n, 0, 0));
            C.due("13 want " + n, there ? 1 : -2, x.want(n, NONE, 0));
            C.due("13 want " + n, there ? 0 : -2, x.want(n, 0, 0));
            C.due("14 swearers " + n, there ? 0 : NONE, x.swearers(0, n, NONE));
            C.due("17 fact " + n, there ? 1 : -2, x.fact(n, NONE, 0));
            C.due("17 fact " + n, there ? 0 : -2, x.fact(n, 0, 0));
            C.due("18 fits " + n, there ? 50 : -2, x.fits(0, n, 0, 0));
            C.due("23 after " + n, there ? 0 : -2, x.after(0, n, 4));
        }
    }
}
