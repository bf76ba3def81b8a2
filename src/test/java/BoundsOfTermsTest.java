/** Terms 2, 4 and 5 with promises 8, 9, 19 and 23: what DEEDS can be, up to where, what is behind them, what is drawn. */
public final class BoundsOfTermsTest {
    private static final int NONE = SwornCounty.NONE;
    private static final Checks C = new Checks();
    private static final String SIX = Checks.times("folk 5 1;", 6);

    public static void main(String[] args) {
        noSuchOne();
        tireAndRest();
        visitsNineAtMost();
        visitsStay();
        courtAndCut();
        swearUpToTwelve();
        swearJustThisOath();
        perjuredFromThenOn();
        whoIsPerjured();
        mondayLeavesNoOath();
        visitsOpenThings();
        firstThatCantBe();
        stopOfNone();
        stateUpToStop();
        stateWhat();
        stateOfNone();
        stateAtItsBounds();
        drawnByOneNumber();
        drawnIfItMay();
        drawnWithNobody();
        drawnWithOneAlone();
        drawnUpTo60();
        drawnOfNone();
        firstPerjury();
        mostVisited();
        bestMonday();
        likingsAndSworn();
        afterOfNone();
        nothingIsLeft();
        C.close("BoundsOfTermsTest");
    }

    private static void stopIs(String sentence, int due, String county, String term) {
        C.due(sentence + " [" + term + "]", due, Checks.with(county, term, null, null).stop(0, 0));
    }

    /** What a state is behind all DEEDS, each of which must be one that can be. */
    private static void stateIs(String sentence, int due, String county, String term, int what) {
        SwornCounty x = Checks.with(county, term, null, null);
        int all = x.deed(0, NONE, 0);
        C.due(sentence + " all can be [" + term + "]", all, x.stop(0, 0));
        C.due(sentence + " [" + term + "] " + what, due, x.state(0, 0, all, what));
    }

    private static String mondays(int n) {
        return Checks.times("monday;", n);
    }

    // ---- DEEDS that can't be

    private static void noSuchOne() {
        for (int folk = 0; folk <= 6; folk++) {
            String county = Checks.times("folk 5 1;", folk);
            stopIs("8 monday with " + folk, 1, county, "monday;");
            for (int a = 0; a < 6; a++) {
                int one = a < folk ? 1 : 0;
                stopIs("8 one of " + folk, one, county, "tire " + a + ";");
                stopIs("8 one of " + folk, one, county, "rest " + a + ";");
                for (int b = 0; b < 6; b++) {
                    if (a == b) continue;
                    int two = a < folk && b < folk ? 1 : 0;
                    String pair = " " + a + " " + b;
                    stopIs("8 two of " + folk, two, county, "visit" + pair + ";");
                    stopIs("8 two of " + folk, two, county, "court" + pair + ";");
                    stopIs("8 two of " + folk, two, county, "swear" + pair + " 0;");
                    String liked = two == 1 ? county + "likes " + b + " " + a + ";" : county;
                    stopIs("8 two of " + folk, two, liked, "cut" + pair + ";");
                }
            }
        }
    }

    /** "WILL is 1 less, 1 more (0 .. 9)": from any WILL as often as there is room for it. */
    private static void tireAndRest() {
        for (int will = 0; will <= 9; will++) {
            String county = "folk 4 4;folk " + will + " 0;";
            stopIs("8 tire from " + will, will, county, Checks.times("tire 1;", 11));
            stopIs("8 rest from " + will, 9 - will, county, Checks.times("rest 1;", 11));
            stateIs("9 tired from " + will, 0, county, Checks.times("tire 1;", will), 11);
            stateIs("9 rested from " + will, 9, county, Checks.times("rest 1;", 9 - will), 11);
            stateIs("9 the other one stays", 4, county, Checks.times("tire 1;", will), 10);
            if (will > 0) stateIs("9 1 less", will - 1, county, "tire 1;", 11);
            if (will < 9) stateIs("9 1 more", will + 1, county, "rest 1;", 11);
        }
        stopIs("8 down and up", 3, "folk 0 0;", "rest 0;tire 0;rest 0;rest 5;");
        stopIs("8 up and down", 3, "folk 9 0;", "tire 0;rest 0;tire 0;rest 5;");
    }

    /** "one VISIT more of the first to the second, 9 at most". */
    private static void visitsNineAtMost() {
        for (int many = 0; many <= 11; many++) {
            stopIs("8 visits", Math.min(many, 9), SIX, Checks.times("visit 0 5;", many));
            if (many <= 9) stateIs("9 visits", many, SIX, Checks.times("visit 0 5;", many), 55);
            if (many <= 9) stateIs("9 not the other way", 0, SIX, Checks.times("visit 0 5;", many), 50);
        }
        // Nine are of one to another one, not of all.
        String nine = Checks.times("visit 0 5;", 9);
        stopIs("8 the other way, too", 18, SIX, nine + Checks.times("visit 5 0;", 10));
        stopIs("8 of another one, too", 18, SIX, nine + Checks.times("visit 4 5;", 10));
        stopIs("8 to another one, too", 18, SIX, nine + Checks.times("visit 0 4;", 10));
        stateIs("9 of all", 36, SIX, nine + Checks.times("visit 1 5;", 9) + Checks.times("visit 2 5;", 9) + Checks.times("visit 3 5;", 9), 55);
    }

    private static void visitsStay() {
        String eight = Checks.times("visit 0 1;", 8);
        stopIs("8 nine over Mondays", 11, SIX, eight + "monday;visit 0 1;monday;visit 0 1;");
        stateIs("9 VISITS stay", 9, SIX, eight + "monday;visit 0 1;monday;", 51);
    }

    private static void courtAndCut() {
        for (int a = 0; a < 6; a += 5) {
            int b = 5 - a;
            String pair = " " + a + " " + b + ";";
            String back = " " + b + " " + a + ";";
            stopIs("8 court, and did not", 1, SIX, "court" + pair + "court" + pair);
            stopIs("8 court, and did", 0, SIX + "likes" + back, "court" + pair);
            stopIs("8 court, the first likes the second", 1, SIX + "likes" + pair, "court" + pair);
            stopIs("8 cut, and did not", 0, SIX, "cut" + pair);
            stopIs("8 cut, and did", 1, SIX + "likes" + back, "cut" + pair + "cut" + pair);
            stopIs("8 cut, the first likes the second", 0, SIX + "likes" + pair, "cut" + pair);
            stopIs("8 by turns", 4, SIX, Checks.times("court" + pair + "cut" + pair, 2) + "cut" + pair);
            stopIs("8 by turns", 3, SIX + "likes" + back, "cut" + pair + "court" + pair + "cut" + pair + "cut" + pair);
            stateIs("9 the second LIKES the first", 1 << a, SIX, "court" + pair, 40 + b);
            stateIs("9 not the first the second", 0, SIX, "court" + pair, 40 + a);
            stateIs("9 no more", 0, SIX + "likes" + back, "cut" + pair, 40 + b);
            stateIs("9 LIKES over Mondays", 1 << a, SIX, "court" + pair + "monday;", 40 + b);
        }
    }

    /** "unless .. there are 12": some are told, the others sworn, all of them unlike. */
    private static void swearUpToTwelve() {
        StringBuilder many = new StringBuilder();
        for (int t = 0; t < 14; t++) many.append("swear ").append(t / 7).append(" 2 ").append(t % 7).append(';');
        for (int told = 0; told <= 12; told++) {
            String county = SIX + Checks.times("oath 3 4 7;", told);
            stopIs("8 twelve, told " + told, 12 - told, county, many.toString());
            String just = many.substring(0, 12 * (12 - told));
            stateIs("9 twelve, told " + told, 12, county, just, 4);
        }
        stopIs("8 none is left by a Monday", 14, "folk 9 4;folk 9 4;" + Checks.times("oath 1 0 0;", 12),
            "monday;" + Checks.times("swear 1 0 1;monday;", 6) + "swear 1 0 1;swear 1 0 1;");
    }

    /** "unless it was just this OATH that there is": one that is unlike it in anything is another one. */
    private static void swearJustThisOath() {
        String oath = "oath 0 1 3;";
        stopIs("8 just this, as told", 0, SIX + oath, "swear 0 1 3;");
        stopIs("8 just this, sworn", 1, SIX, "swear 0 1 3;swear 0 1 3;");
        stopIs("8 another one SWORE", 1, SIX + oath, "swear 2 1 3;");
        stopIs("8 another one is BOUND", 1, SIX + oath, "swear 0 2 3;");
        stopIs("8 another THING", 1, SIX + oath, "swear 0 1 4;");
        stopIs("8 the other way", 1, SIX + oath, "swear 1 0 3;");
        stopIs("8 the last of some", 2, SIX + oath, "swear 0 1 4;swear 0 1 5;swear 0 1 4;");
        stopIs("8 the first of some", 2, SIX + oath, "swear 0 1 4;swear 0 1 5;swear 0 1 3;");
        stopIs("8 no more behind a Monday", 2, SIX + oath, "monday;swear 0 1 3;");
    }

    private static void perjuredFromThenOn() {
        // 1 has no room: what 0 SWORE for them is BROKEN.
        String county = "folk 9 1;folk 9 0;folk 9 1;";
        stopIs("8 not before Monday", 3, county, "swear 0 1 0;swear 0 1 1;swear 0 2 1;");
        stopIs("8 from then on", 2, county, "swear 0 1 0;monday;swear 0 1 0;");
        stopIs("8 for whomever", 2, county, "swear 0 1 0;monday;swear 0 2 0;");
        stopIs("8 behind further Mondays", 5, county, "swear 0 1 0;monday;monday;monday;monday;swear 0 2 0;");
        stopIs("8 as told", 1, county + "oath 0 1 0;", "monday;swear 0 2 0;");
        stopIs("8 who is BOUND is not", 3, county, "swear 0 1 0;monday;swear 1 2 0;");
        stopIs("8 another one is not", 3, county, "swear 0 1 0;monday;swear 2 1 0;");
        stopIs("8 one who is PERJURED may be BOUND", 3, county, "swear 0 1 0;monday;swear 1 0 0;");
        stopIs("8 and may do all else", 9, county, "swear 0 1 0;monday;visit 0 1;visit 1 0;court 0 1;cut 0 1;tire 0;rest 0;monday;");
        stopIs("8 KEPT: not PERJURED", 3, county, "swear 0 2 0;monday;swear 0 2 0;");
        stopIs("8 one KEPT, one BROKEN", 3, county, "swear 0 2 0;swear 0 1 0;monday;swear 0 2 0;");
    }

    private static void whoIsPerjured() {
        stateIs("9 nobody at first", 0, SIX, "", 3);
        stateIs("9 nobody without OATHS", 0, SIX, "monday;", 3);
        StringBuilder ring = new StringBuilder();
        for (int p = 0; p < 6; p++) ring.append("oath ").append(p).append(' ').append((p + 1) % 6).append(" 0;");
        stateIs("9 none is BROKEN", 0, SIX + ring, "monday;", 3);
        stateIs("9 all of them", 63, SIX + "hard 0 6;" + ring, "monday;", 3);
        stateIs("9 not yet", 0, SIX + "hard 0 6;" + ring, "tire 0;", 3);
        stateIs("9 the last one", 32, SIX + ring, "tire 0;monday;", 3);
        stateIs("9 the first one", 1, SIX + ring, "tire 1;monday;", 3);
        stateIs("9 from then on", 1, SIX + ring, "tire 1;monday;rest 1;monday;", 3);
        // The OATH is BROKEN for both, though it is by one of them that it might be OPEN.
        String both = "folk 5 0;folk 0 0;folk 0 0;oath 1 0 0;oath 2 0 0;";
        stateIs("9 both who SWORE it", 6, both, "monday;", 3);
        // One of both has HEART enough, so that neither is.
        both = "folk 4 1;folk 0 0;folk 0 0;likes 0 2;oath 1 0 0;oath 2 0 0;";
        stateIs("9 neither who SWORE it", 0, both, "monday;", 3);
        stateIs("9 both without the liking", 6, both, "cut 2 0;monday;", 3);
    }

    private static void mondayLeavesNoOath() {
        String county = "folk 9 1;folk 9 1;oath 0 1 0;oath 0 1 1;oath 0 1 1;oath 1 0 7;";
        int[][] behind = {{0, 0}, {1, 0}, {2, 0}, {3, 0}, {4, 4}, {20, 128}, {21, 3}, {30, 128}, {31, 1}};
        for (int[] d : behind) stateIs("9 before", d[1], county, "", d[0]);
        int[][] then = {{0, 1}, {1, 2}, {2, 2}, {3, 1}, {4, 0}, {20, 0}, {21, 0}, {30, 0}, {31, 0}};
        for (int[] d : then) stateIs("9 behind a Monday", d[1], county, "monday;", d[0]);
        stateIs("9 in all", 3, county, "monday;swear 1 0 0;monday;", 1);
        stateIs("9 BROKEN in all", 2, county, "monday;swear 1 0 0;monday;", 2);
        stateIs("9 nothing more by a Monday without", 2, county, "monday;monday;monday;", 2);
        stateIs("9 Mondays", 40, county, mondays(40), 0);
        // As many as can be: twelve of each.
        String twelve = Checks.times("oath 0 1 0;", 12);
        stateIs("9 twelve KEPT", 12, "folk 0 0;folk 5 1;" + twelve, "monday;", 1);
        stateIs("9 none KEPT", 0, "folk 0 0;folk 5 0;" + twelve, "monday;", 1);
        stateIs("9 twelve BROKEN", 12, "folk 0 0;folk 5 0;" + twelve, "monday;", 2);
    }

    /** "HEART .. is as much as it is HARD or more", VISITS of who SWORE to who is BOUND with it. */
    private static void visitsOpenThings() {
        String county = "folk 0 1;folk 0 0;folk 0 0;hard 3 9;oath 1 0 3;";
        for (int v = 0; v <= 9; v++) {
            String visits = Checks.times("visit 1 0;", v);
            stateIs("9 by VISITS " + v, v >= 9 ? 8 : 0, county, visits, 30);
            stateIs("9 by VISITS and liking " + v, v >= 7 ? 8 : 0, county, "court 1 0;" + visits, 30);
            stateIs("9 by VISITS and WILL " + v, v >= 8 ? 8 : 0, county, "rest 0;" + visits, 30);
        }
        stateIs("9 not by another one's", 0, county, Checks.times("visit 2 0;", 9) + Checks.times("visit 1 0;", 8), 30);
        stateIs("9 not by those to who SWORE", 0, county, Checks.times("visit 0 1;", 9) + Checks.times("visit 1 0;", 8), 30);
        stateIs("9 not if who SWORE likes", 0, county, "court 0 1;" + Checks.times("visit 1 0;", 8), 30);
        stateIs("9 another one SWORE it, too", 8, county + "oath 2 0 3;", Checks.times("visit 2 0;", 9), 30);
    }

    // ---- STOP and STATES

    private static void firstThatCantBe() {
        for (int before = 0; before < 40; before++) {
            int behind = 39 - before;
            stopIs("8 the first that can't be", before, SIX, mondays(before) + "cut 0 1;" + mondays(behind));
            stopIs("8 not a later one", before, SIX, mondays(before) + Checks.times("cut 0 1;", behind + 1));
            stopIs("8 else how many there are", before, SIX, mondays(before));
        }
        stopIs("8 all forty", 40, SIX, mondays(40));
        stopIs("8 none", 0, SIX, "");
        stopIs("8 nothing is done by one that can't be", 1, "folk 0 0;", "monday;tire 0;rest 0;");
    }

    private static void stopOfNone() {
        for (int counties = 0; counties <= 2; counties++) {
            for (int terms = 0; terms <= 2; terms++) {
                SwornCounty x = new SwornCounty();
                for (int i = 0; i < counties; i++) Checks.tell(x, 0, NONE, "");
                for (int i = 0; i < terms; i++) Checks.tell(x, 1, NONE, "monday;");
                for (int c = -2; c <= 3; c++) {
                    for (int t = -2; t <= 3; t++) {
                        boolean both = c >= 0 && c < counties && t >= 0 && t < terms;
                        C.due("8 stop " + c + " " + t, both ? 1 : NONE, x.stop(c, t));
                    }
                }
                for (int far : Checks.FAR) {
                    C.due("8 no such COUNTY", NONE, x.stop(far, 0));
                    C.due("8 no such TERM", NONE, x.stop(0, far));
                }
            }
        }
    }

    private static void stateUpToStop() {
        for (int before = 0; before <= 40; before++) {
            for (int kind = 0; kind < 2; kind++) {
                String rest = kind == 0 || before == 40 ? "" : "cut 0 1;" + mondays(39 - before);
                SwornCounty x = Checks.with(SIX, mondays(before) + rest, null, null);
                for (int n = -3; n <= 43; n++) {
                    int due = n >= 0 && n <= before ? n : NONE;
                    C.due("9 n up to STOP " + before + ": " + n, due, x.state(0, 0, n, 0));
                }
                for (int far : Checks.FAR) C.due("9 no such STATE", NONE, x.state(0, 0, far, 0));
            }
        }
    }

    private static boolean isWhat(int what, int folk) {
        boolean one = what >= 10 && what < 60 && what % 10 < folk;
        return one || what >= 0 && what <= 4;
    }

    private static void stateWhat() {
        for (int folk = 0; folk <= 6; folk++) {
            int f = folk;
            SwornCounty x = Checks.with(Checks.times("folk 5 1;", folk), "monday;", null, null);
            C.others("9 for another what", NONE, what -> isWhat(what, f), what -> x.state(0, 0, 1, what));
            for (int p = 0; p < folk; p++) {
                int[] due = {5, 0, 0, 0, 0};
                for (int i = 0; i < 5; i++) C.due("9 state " + (10 * i + 10 + p), due[i], x.state(0, 0, 1, 10 * i + 10 + p));
            }
            SwornCounty y = Checks.with(Checks.times("folk 5 1;", folk));
            C.others("19 for another what", NONE, what -> isWhat(what, f), what -> y.drawn(0, 0, 0, what));
        }
    }

    private static void stateOfNone() {
        for (int counties = 0; counties <= 2; counties++) {
            for (int terms = 0; terms <= 2; terms++) {
                SwornCounty x = new SwornCounty();
                for (int i = 0; i < counties; i++) Checks.tell(x, 0, NONE, "folk 7 1;");
                for (int i = 0; i < terms; i++) Checks.tell(x, 1, NONE, "");
                for (int c = -2; c <= 3; c++) {
                    for (int t = -2; t <= 3; t++) {
                        boolean both = c >= 0 && c < counties && t >= 0 && t < terms;
                        C.due("9 state " + c + " " + t, both ? 7 : NONE, x.state(c, t, 0, 10));
                    }
                }
                for (int far : Checks.FAR) {
                    C.due("9 no such COUNTY", NONE, x.state(far, 0, 0, 10));
                    C.due("9 no such TERM", NONE, x.state(0, far, 0, 10));
                }
            }
        }
    }

    /** A TERM begins with OATHS as told, no VISITS, nobody PERJURED; WILL and LIKES as told. */
    private static void stateAtItsBounds() {
        String county = "folk 9 4;folk 0 0;folk 9 4;folk 9 4;folk 9 4;folk 9 4;likes 0 5;likes 5 0;likes 0 1;"
            + "oath 1 0 0;oath 1 0 7;oath 5 0 7;oath 0 1 0;oath 0 5 3;";
        int[][] due = {{0, 0}, {1, 0}, {2, 0}, {3, 0}, {4, 5}, {10, 9}, {11, 0}, {15, 9}, {20, 129}, {21, 1}, {25, 8}, {22, 0},
            {30, 129}, {31, 0}, {35, 8}, {40, 34}, {45, 1}, {41, 0}, {50, 0}, {55, 0}};
        for (int[] d : due) {
            stateIs("9 at first", d[1], county, "", d[0]);
            C.due("19 at first " + d[0], d[1], Checks.with(county).drawn(0, 12345, 0, d[0]));
        }
        // Nothing of one question is left for the next.
        SwornCounty x = Checks.with(county, "visit 0 1;visit 1 0;tire 0;court 0 1;monday;swear 5 2 3;", null, null);
        for (int i = 0; i < 2; i++) {
            C.due("9 behind all", 8, x.state(0, 0, 6, 10));
            C.due("9 behind all", 1, x.state(0, 0, 6, 4));
            for (int[] d : due) C.due("9 at first, still " + d[0], d[1], x.state(0, 0, 0, d[0]));
            C.due("11 as told", 9, x.heart(0, 2, 0));
            C.due("11 as told", 0, x.heart(0, 0, 1));
        }
    }

    // ---- DRAWN

    /** Draws as the document says, in a way of its own. */
    private static final class Lots {
        private long x;

        Lots(int seed) {
            x = seed & 0xffffffffL;
        }

        int below(int n) {
            x = (x * 1103515245L + 12345L) % 4294967296L;
            return (int) (x / 65536 % n);
        }
    }

    private static final int[] SEEDS = {Integer.MIN_VALUE, Integer.MIN_VALUE + 1, -65536, -2, -1, 0, 1, 2, 65535, 65536, Integer.MAX_VALUE};

    private static int seedAt(int i) {
        return i < SEEDS.length ? SEEDS[i] : i * 7919;
    }

    private static void drawnByOneNumber() {
        for (int folk = 2; folk <= 6; folk++) {
            StringBuilder all = new StringBuilder(Checks.times("folk 5 1;", folk));
            for (int a = 0; a < folk; a++) for (int b = 0; b < folk; b++) if (a != b) all.append("likes ").append(a).append(' ').append(b).append(';');
            SwornCounty x = Checks.with(Checks.times("folk 5 1;", folk));
            Checks.tell(x, 0, NONE, all.toString());
            int everybody = (1 << folk) - 1;
            for (int i = 0; i < 120; i++) {
                int seed = seedAt(i);
                Lots lots = new Lots(seed);
                int lot = lots.below(10);
                int a = lot == 9 ? 0 : lots.below(folk);
                int b = lot >= 8 ? 0 : (a + 1 + lots.below(folk - 1)) % folk;
                String call = "19 lot " + lot + " of seed " + seed + " with " + folk;
                if (lot <= 3) C.due(call + " swear", 1 << lots.below(8), x.drawn(0, seed, 1, 20 + b));
                else if (lot <= 5) C.due(call + " visit", 1, x.drawn(0, seed, 1, 50 + b));
                else if (lot == 6) C.due(call + " court", 1 << a, x.drawn(0, seed, 1, 40 + b));
                else if (lot == 7) C.due(call + " cut", everybody & ~(1 << a) & ~(1 << b), x.drawn(1, seed, 1, 40 + b));
                else if (lot == 8) C.due(call + " tire or rest", lots.below(2) == 0 ? 4 : 6, x.drawn(0, seed, 1, 10 + a));
                else C.due(call + " monday", 1, x.drawn(0, seed, 1, 0));
                C.due(call + " OATHS", lot <= 3 ? 1 : 0, x.drawn(0, seed, 1, 4));
                C.due(call + " Mondays", lot == 9 ? 1 : 0, x.drawn(0, seed, 1, 0));
            }
        }
    }

    /** "each, if it may": where it may not, nothing is done, and the next is drawn all the same. */
    private static void drawnIfItMay() {
        String twelve = "folk 5 1;folk 5 1;likes 0 1;likes 1 0;" + Checks.times("oath 0 1 0;", 12);
        String[] counties = {"folk 0 1;folk 9 1;", "folk 9 0;folk 0 0;", twelve, SIX};
        for (String county : counties) {
            for (int i = 0; i < 40; i++) {
                int seed = seedAt(i);
                SwornCounty x = Checks.with(county);
                PlainCounty plain = plainWith(county);
                for (int n : new int[] {1, 2, 30, 59, 60})
                    for (int what : new int[] {0, 1, 2, 3, 4, 10, 11, 20, 21, 30, 31, 40, 41, 50, 51})
                        C.due("19 seed " + seed + " n " + n + " what " + what, plain.drawn(0, seed, n, what), x.drawn(0, seed, n, what));
            }
        }
        // By 0 the first is swear (below 10: 0): with twelve there is none more.
        C.due("19 twelve stay twelve", 12, Checks.with(twelve).drawn(0, 0, 1, 4));
    }

    private static PlainCounty plainWith(String county) {
        PlainCounty plain = new PlainCounty();
        for (int i = 0; i < county.length(); i += 20) {
            int[] n = new int[5];
            for (int k = 0; k < 20; k++) n[k / 4] = n[k / 4] << 8 | (i + k < county.length() ? county.charAt(i + k) : ' ');
            plain.feed(n[0], n[1], n[2], n[3], n[4]);
        }
        plain.text(0, NONE);
        return plain;
    }

    /** "with none 8 draw no more": one number each time, Mondays alone are done. */
    private static void drawnWithNobody() {
        for (int i = 0; i < 40; i++) {
            SwornCounty x = Checks.with("");
            Lots lots = new Lots(seedAt(i));
            int due = 0;
            for (int n = 1; n <= 60; n++) {
                due += lots.below(10) == 9 ? 1 : 0;
                C.due("19 Mondays with nobody", due, x.drawn(0, seedAt(i), n, 0));
            }
            for (int what = 1; what <= 4; what++) C.due("19 nothing else", 0, x.drawn(0, seedAt(i), 60, what));
        }
    }

    /** "With fewer than two of the FOLK 0 to 7 .. draw no more", but 8 does. */
    private static void drawnWithOneAlone() {
        for (int will = 0; will <= 9; will += 3) {
            for (int i = 0; i < 40; i++) {
                SwornCounty x = Checks.with("folk " + will + " 1;");
                Lots lots = new Lots(seedAt(i));
                int mondays = 0;
                int then = will;
                for (int n = 1; n <= 60; n++) {
                    int lot = lots.below(10);
                    mondays += lot == 9 ? 1 : 0;
                    if (lot == 8) {
                        lots.below(1);
                        int changed = then + (lots.below(2) == 0 ? -1 : 1);
                        then = changed < 0 || changed > 9 ? then : changed;
                    }
                    C.due("19 Mondays of one alone", mondays, x.drawn(0, seedAt(i), n, 0));
                    C.due("19 WILL of one alone", then, x.drawn(0, seedAt(i), n, 10));
                }
            }
        }
    }

    private static void drawnUpTo60() {
        for (String county : new String[] {"", "folk 5 1;", SIX}) {
            for (int seed : SEEDS) {
                SwornCounty x = Checks.with(county);
                PlainCounty plain = plainWith(county);
                for (int n = 0; n <= 60; n++) C.due("19 n " + n, plain.drawn(0, seed, n, 0), x.drawn(0, seed, n, 0));
                C.outside(0, 60, "19 another n", NONE, n -> x.drawn(0, seed, n, 0));
            }
        }
    }

    private static void drawnOfNone() {
        for (int many = 0; many <= 2; many++) {
            SwornCounty x = new SwornCounty();
            for (int i = 0; i < many; i++) Checks.tell(x, 0, NONE, "folk 1 1;");
            for (int i = 0; i < many; i++) C.due("19 a COUNTY", 1, x.drawn(i, 0, 0, 10));
            C.outside(0, many - 1, "19 no such COUNTY", NONE, c -> x.drawn(c, 0, 0, 0));
        }
    }

    // ---- Promise 23

    private static void afterIs(String sentence, int due, String county, String term, int what) {
        C.due(sentence + " [" + term + "]", due, Checks.with(county, term, null, null).after(0, 0, what));
    }

    private static void firstPerjury() {
        String county = "folk 9 1;folk 9 0;folk 9 1;";
        afterIs("23 no DEED", NONE, county, "", 0);
        afterIs("23 none is BROKEN", NONE, county, "swear 0 2 0;monday;", 0);
        afterIs("23 BROKEN, but no Monday", NONE, county, "swear 0 1 0;", 0);
        afterIs("23 by DEED 0", 0, county + "oath 0 1 0;", "monday;", 0);
        afterIs("23 by DEED 1", 1, county, "swear 0 1 0;monday;", 0);
        afterIs("23 the first of two", 1, county, "swear 0 1 0;monday;swear 2 1 0;monday;", 0);
        afterIs("23 by the second Monday", 3, county, "swear 0 2 0;monday;swear 0 1 0;monday;", 0);
        afterIs("23 by DEED 39", 39, county, mondays(38) + "swear 0 1 0;monday;", 0);
        afterIs("23 not behind STOP", NONE, county, "swear 0 1 0;swear 0 1 0;monday;", 0);
        afterIs("23 before STOP", 1, county, "swear 0 1 0;monday;swear 0 1 0;monday;", 0);
    }

    private static void mostVisited() {
        afterIs("23 nobody", NONE, SIX, "", 1);
        afterIs("23 nobody", NONE, SIX, "monday;", 1);
        afterIs("23 nobody is there", NONE, "", "monday;", 1);
        for (int p = 0; p < 6; p++) afterIs("23 one VISIT", p, SIX, "visit " + (p + 1) % 6 + " " + p + ";", 1);
        afterIs("23 of several the least", 2, SIX, "visit 0 5;visit 0 2;", 1);
        afterIs("23 one more", 5, SIX, "visit 0 5;visit 0 2;visit 1 5;", 1);
        afterIs("23 of all who VISITED", 1, SIX, Checks.times("visit 1 0;", 9) + Checks.times("visit 0 1;", 9) + "visit 2 1;", 1);
        afterIs("23 over Mondays", 4, SIX, "visit 0 4;monday;visit 1 4;monday;visit 0 3;", 1);
        afterIs("23 not behind STOP", 0, SIX, "visit 1 0;cut 0 1;visit 0 1;visit 2 1;", 1);
    }

    private static void bestMonday() {
        String county = "folk 9 4;folk 9 4;";
        afterIs("23 no Monday", NONE, county, "", 2);
        afterIs("23 no Monday", NONE, county + "oath 0 1 0;", "tire 0;", 2);
        afterIs("23 a Monday without OATHS", 1, county, "monday;", 2);
        afterIs("23 from 1 on", 1, county + "oath 0 1 0;", "monday;", 2);
        afterIs("23 of several the first", 1, county + "oath 0 1 0;", "monday;swear 0 1 0;monday;", 2);
        afterIs("23 the second", 2, county, "monday;swear 0 1 0;monday;monday;", 2);
        afterIs("23 most of all", 3, county, "swear 0 1 0;monday;monday;swear 0 1 0;swear 0 1 1;monday;swear 1 0 0;monday;", 2);
        afterIs("23 the 39th", 39, county, mondays(38) + "swear 0 1 0;monday;", 2);
        afterIs("23 forty without", 1, county, mondays(40), 2);
        afterIs("23 BROKEN ones don't count", 2, "folk 9 4;folk 9 0;folk 9 4;oath 0 1 0;oath 0 1 1;oath 0 1 2;", "monday;swear 1 0 0;monday;", 2);
        afterIs("23 not behind STOP", 1, county, "monday;cut 0 1;swear 0 1 0;monday;", 2);
    }

    private static void likingsAndSworn() {
        StringBuilder all = new StringBuilder(SIX);
        for (int a = 0; a < 6; a++) for (int b = 0; b < 6; b++) if (a != b) all.append("likes ").append(a).append(' ').append(b).append(';');
        afterIs("23 no LIKINGS", 0, SIX, "", 3);
        afterIs("23 nobody there", 0, "", "", 3);
        afterIs("23 all LIKINGS", 30, all.toString(), "", 3);
        afterIs("23 one less", 29, all.toString(), "cut 5 4;", 3);
        afterIs("23 one more", 1, SIX, "court 5 4;", 3);
        afterIs("23 told twice is one", 1, SIX + "likes 0 1;likes 0 1;", "", 3);
        afterIs("23 not behind STOP", 1, SIX, "court 0 1;court 0 1;court 1 0;", 3);
        afterIs("23 none SWORN by swear", 0, SIX + "oath 0 1 0;", "monday;", 4);
        afterIs("23 one SWORN", 1, SIX + "oath 0 1 0;", "swear 0 1 1;monday;", 4);
        afterIs("23 over Mondays", 2, SIX, "swear 0 1 1;monday;swear 0 1 1;", 4);
        afterIs("23 not the one that can't be", 1, SIX, "swear 0 1 1;swear 0 1 1;swear 0 1 2;", 4);
        StringBuilder forty = new StringBuilder();
        for (int i = 0; i < 20; i++) forty.append("swear 0 1 0;monday;");
        afterIs("23 twenty", 20, SIX, forty.toString(), 4);
    }

    private static void afterOfNone() {
        SwornCounty one = Checks.with(SIX, "monday;", null, null);
        C.outside(0, 4, "23 for another what", -2, what -> one.after(0, 0, what));
        for (int counties = 0; counties <= 2; counties++) {
            for (int terms = 0; terms <= 2; terms++) {
                SwornCounty x = new SwornCounty();
                for (int i = 0; i < counties; i++) Checks.tell(x, 0, NONE, "");
                for (int i = 0; i < terms; i++) Checks.tell(x, 1, NONE, "monday;");
                for (int c = -2; c <= 3; c++) {
                    for (int t = -2; t <= 3; t++) {
                        boolean both = c >= 0 && c < counties && t >= 0 && t < terms;
                        int[] due = {NONE, NONE, 1, 0, 0};
                        for (int what = 0; what < 5; what++) C.due("23 after " + c + " " + t + " " + what, both ? due[what] : -2, x.after(c, t, what));
                    }
                }
                for (int far : Checks.FAR) {
                    C.due("23 no such COUNTY", -2, x.after(far, 0, 2));
                    C.due("23 no such TERM", -2, x.after(0, far, 2));
                }
            }
        }
    }

    /** Of one TERM, or of what was drawn, nothing is left for the next. */
    private static void nothingIsLeft() {
        SwornCounty x = Checks.with("folk 9 1;folk 9 1;oath 0 1 0;oath 0 1 1;", "visit 0 1;court 0 1;monday;swear 1 0 0;", null, null);
        Checks.tell(x, 1, NONE, "");
        int[][] after = {{2, 1, 1, 1, 1}, {NONE, NONE, NONE, 0, 0}};
        int[][] state = {{1, 1, 1, 1, 1}, {0, 0, 0, 0, 2}};
        for (int i = 0; i < 6; i++) {
            int t = i % 2;
            for (int what = 0; what < 5; what++) C.due("23 of each TERM, what " + what, after[t][what], x.after(0, t, what));
            for (int what = 0; what < 5; what++) C.due("9 of each TERM, what " + what, state[t][what], x.state(0, t, t == 0 ? 4 : 0, what));
            C.due("9 VISITS of each TERM", 1 - t, x.state(0, t, t == 0 ? 4 : 0, 51));
            C.due("8 of each TERM", t == 0 ? 4 : 0, x.stop(0, t));
            for (int what = 0; what < 4; what++) C.due("19 at first", 0, x.drawn(0, i, 0, what));
            C.due("19 again the same", x.drawn(0, 8, 60, 2), x.drawn(0, 8, 60, 2));
        }
    }
}
