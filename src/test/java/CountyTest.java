/** Promises 8 to 12, 14 to 16 and 18 to 23: what follows from what was told. Worked out by hand. */
public final class CountyTest {
    private static final int NONE = SwornCounty.NONE;
    private static final Checks C = new Checks();

    /**
     * 1 keeps 1 (HEART of 0 is 6 + 2); 0 keeps 3 (3 + 2), but not 0 (HEART of 1 is 3, it is 4 hard);
     * 2 has no room for 7; 3 keeps 7. So the OATHS 1 and 4 are BROKEN.
     */
    private static final String COUNTY = "folk 3 2;folk 6 1;folk 9 0;folk 2 4;hard 0 4;hard 1 8;hard 7 0;clash 0 3;"
        + "likes 1 0;likes 0 3;oath 0 1 1;oath 1 0 0;oath 3 0 3;oath 2 3 7;oath 0 2 7;";
    private static final String TERM = "visit 1 0;monday;swear 1 3 1;swear 2 3 7;court 2 3;tire 0;rest 1;visit 2 3;"
        + "monday;swear 2 1 1;swear 0 1 1;";

    public static void main(String[] args) {
        promise8Stop();
        promise8DeedsThatCantBe();
        promise9State();
        promise10Keeps();
        promise10OfEachCounty();
        promise10Visits();
        promise10Hearten();
        promise11Heart();
        promise12Fall();
        promise12Strikes();
        promise12Rings();
        promise14Swearers();
        promise15Dare();
        promise16Chance();
        promise18Fits();
        promise18NothingFits();
        promise19Drawn();
        promise20Lone();
        promise20More();
        promise20Weak();
        promise21Chain();
        promise22Steps();
        promise23After();
        nobodyThere();
        C.close("CountyTest");
    }

    private static int stopOf(String county, String term) {
        return Checks.with(county, term, null, null).stop(0, 0);
    }

    private static void promise8Stop() {
        SwornCounty x = Checks.with(COUNTY, TERM, null, null);
        C.due("8 stop", 10, x.stop(0, 0));
        C.due("8 no such county", NONE, x.stop(1, 0));
        C.due("8 no such county", NONE, x.stop(-1, 0));
        C.due("8 no such term", NONE, x.stop(0, 1));
        C.due("8 no such term", NONE, x.stop(0, -1));
        C.due("8 no deeds", 0, stopOf(COUNTY, ""));
        C.due("8 all can be", 2, stopOf("", "monday;monday;"));
        Checks.tell(x, 1, NONE, "monday;tire 0;monday;tire 4;");
        Checks.tell(x, 0, NONE, "");
        int[][] due = {{10, 3}, {0, 1}};
        for (int c = 0; c < 2; c++)
            for (int t = 0; t < 2; t++) C.due("8 stop " + c + " " + t, due[c][t], x.stop(c, t));
    }

    private static void promise8DeedsThatCantBe() {
        String three = "folk 1 1;folk 8 1;folk 5 1;likes 0 1;";
        C.due("8 tire down to 0", 1, stopOf(three, "tire 0;tire 0;"));
        C.due("8 rest up to 9", 1, stopOf(three, "rest 1;rest 1;"));
        C.due("8 nobody to tire", 0, stopOf(three, "tire 3;"));
        C.due("8 nobody to rest", 0, stopOf(three, "rest 5;"));
        C.due("8 nine visits", 9, stopOf(three, Checks.times("visit 0 1;", 10)));
        C.due("8 nine of each", 18, stopOf(three, Checks.times("visit 0 1;", 9) + Checks.times("visit 1 0;", 10)));
        C.due("8 nobody to visit", 0, stopOf(three, "visit 0 3;"));
        C.due("8 nobody who visits", 0, stopOf(three, "visit 3 0;"));
        C.due("8 court, liked already", 0, stopOf(three, "court 1 0;"));
        C.due("8 court", 1, stopOf(three, "court 0 1;court 0 1;"));
        C.due("8 cut", 1, stopOf(three, "cut 1 0;cut 1 0;"));
        C.due("8 cut, not liked", 0, stopOf(three, "cut 0 1;"));
        C.due("8 nobody to court", 0, stopOf(three, "court 0 4;"));
        C.due("8 nobody to cut", 0, stopOf(three, "cut 4 0;"));
        C.due("8 the same oath", 1, stopOf(three, "swear 0 1 2;swear 0 1 2;"));
        C.due("8 the same oath as told", 0, stopOf(three + "oath 0 1 2;", "swear 0 1 2;"));
        C.due("8 another one's", 3, stopOf(three, "swear 0 1 2;swear 2 1 2;swear 1 0 2;"));
        C.due("8 the same after Monday", 3, stopOf(three, "swear 0 1 2;monday;swear 0 1 2;"));
        C.due("8 perjured", 2, stopOf(three, "swear 1 0 2;monday;swear 1 2 3;"));
        C.due("8 not the bound one", 3, stopOf(three, "swear 1 0 2;monday;swear 0 1 3;"));
        C.due("8 nobody to swear for", 0, stopOf(three, "swear 0 3 2;"));
        C.due("8 nobody who swears", 0, stopOf(three, "swear 3 0 2;"));
        String eleven = three + Checks.times("oath 0 1 0;", 11);
        C.due("8 twelve oaths", 1, stopOf(eleven, "swear 0 1 1;swear 0 1 2;"));
    }

    private static void promise9State() {
        SwornCounty x = Checks.with(COUNTY, TERM, null, null);
        int[][] due = {
            {0, 0, 0}, {0, 1, 0}, {0, 2, 0}, {0, 3, 0}, {0, 4, 5}, {0, 10, 3}, {0, 20, 9}, {0, 30, 8}, {0, 33, 128},
            {0, 40, 8}, {0, 50, 0},
            // Visited by 1, 0 would keep 0, which clashes with 3 and is the lesser.
            {1, 30, 1}, {1, 50, 1}, {1, 4, 5}, {1, 3, 0},
            {2, 0, 1}, {2, 1, 3}, {2, 2, 2}, {2, 3, 9}, {2, 4, 0}, {2, 20, 0}, {2, 30, 0}, {2, 50, 1},
            {4, 4, 2}, {4, 23, 130}, {4, 33, 128}, {4, 43, 0}, {5, 43, 4}, {6, 10, 2}, {7, 11, 7}, {8, 53, 1},
            {9, 0, 2}, {9, 1, 4}, {9, 2, 3}, {9, 3, 11}, {10, 4, 1}, {10, 21, 2}, {10, 31, 0}, {10, 13, 2}};
        for (int[] d : due) C.due("9 state " + d[0] + " " + d[1], d[2], x.state(0, 0, d[0], d[1]));
        C.due("9 beyond STOP", NONE, x.state(0, 0, 11, 0));
        C.due("9 below 0", NONE, x.state(0, 0, -1, 0));
        C.due("9 no such county", NONE, x.state(1, 0, 0, 0));
        C.due("9 no such term", NONE, x.state(0, 1, 0, 0));
        int[] none = {-1, 5, 9, 14, 15, 16, 19, 24, 34, 44, 54, 60, 63, 100, Integer.MAX_VALUE, Integer.MIN_VALUE};
        for (int what : none) C.due("9 what " + what, NONE, x.state(0, 0, 0, what));
        // Visits stay over a Monday, and help.
        x = Checks.with("folk 3 1;folk 0 0;", "visit 1 0;visit 1 0;monday;swear 1 0 4;monday;", null, null);
        C.due("9 visits stay", 1, x.state(0, 0, 5, 1));
        C.due("9 visits", 2, x.state(0, 0, 5, 50));
        // An oath told twice is kept twice.
        x = Checks.with("folk 9 1;folk 0 0;oath 1 0 4;oath 1 0 4;", "monday;", null, null);
        C.due("9 twice", 2, x.state(0, 0, 1, 1));
    }

    private static void promise10Keeps() {
        SwornCounty x = Checks.with(COUNTY);
        int[][] due = {{9, 8, 8, NONE, 0, NONE}, {2, 2, 2, 0, 0, 0}, {128, 128, 0, NONE, 0, NONE}, {128, 128, 128, 0, 1, 0}};
        for (int p = 0; p < 4; p++)
            for (int what = 0; what < 6; what++) C.due("10 keeps " + p + " " + what, due[p][what], x.keeps(0, p, what));
        C.due("10 what 6", -99, x.keeps(0, 0, 6));
        C.due("10 what -1", -99, x.keeps(0, 0, -1));
        C.due("10 who 4", -99, x.keeps(0, 4, 0));
        C.due("10 who -1", -99, x.keeps(0, -1, 0));
        C.due("10 county 1", -99, x.keeps(1, 0, 0));
        C.due("10 county -1", -99, x.keeps(-1, 0, 0));
        // Room for two: 1 clashes with 0 and 2, so 0 and 2 it is; of 0, 2, 3 the least number.
        x = Checks.with("folk 9 2;folk 0 0;clash 0 1;clash 1 2;oath 1 0 3;oath 1 0 0;oath 1 0 1;oath 1 0 2;");
        C.due("10 least set", 5, x.keeps(0, 0, 2));
        // One oath with heart enough opens the thing for both.
        x = Checks.with("folk 3 1;folk 0 0;folk 0 0;likes 0 2;oath 1 0 0;oath 2 0 0;");
        C.due("10 any who swore", 1, x.keeps(0, 0, 1));
        C.due("10 none is broken", 0, x.fall(0, 0));
        // All eight are open: the four least.
        String eight = "folk 9 4;folk 0 0;";
        for (int t = 0; t < 8; t++) eight += "oath 1 0 " + t + ";";
        x = Checks.with(eight);
        C.due("10 all open", 255, x.keeps(0, 0, 1));
        C.due("10 the four least", 15, x.keeps(0, 0, 2));
        // Four oaths that are broken.
        x = Checks.with("folk 0 4;folk 0 4;oath 1 0 0;oath 1 0 1;oath 1 0 2;oath 1 0 2;");
        C.due("10 balance below 0", -4, x.keeps(0, 1, 4));
    }

    /** What CLASHES in one COUNTY counts for no other one, whichever was asked of before. */
    private static void promise10OfEachCounty() {
        String three = "folk 9 4;folk 9 4;oath 0 1 0;oath 0 1 1;oath 0 1 2;";
        SwornCounty x = Checks.with(three);
        Checks.tell(x, 0, NONE, three + "clash 0 1;");
        for (int i = 0; i < 2; i++) {
            C.due("10 all without clashes", 7, x.keeps(0, 1, 2));
            C.due("10 the least of 5 and 6", 5, x.keeps(1, 1, 2));
            C.due("10 all broken but these", 2, x.lone(1, 9) ^ 7);
            C.due("10 none broken", 7, x.lone(0, 9));
        }
        x.image(0);
        Checks.tell(x, 0, 0, three + "clash 0 1;clash 1 2;clash 0 2;");
        C.due("10 one in the place of one", 1, x.keeps(0, 1, 2));
        x.again(0);
        C.due("10 as before", 7, x.keeps(0, 1, 2));
    }

    private static void promise10Visits() {
        String folk = "folk 2 2;folk 0 0;folk 0 0;hard 0 4;hard 1 9;oath 1 0 0;oath 2 0 0;oath 2 0 1;";
        // 2 must come seven times for 1, and opens 0 by that.
        C.due("10 visits", 7, Checks.with(folk).keeps(0, 0, 3));
        C.due("10 visits of a liked one", 5, Checks.with(folk + "likes 0 2;").keeps(0, 0, 3));
        C.due("10 by each", 4, Checks.with("folk 3 3;folk 0 0;folk 0 0;oath 1 0 0;oath 2 0 1;").keeps(0, 0, 3));
        C.due("10 up to nine", 9, Checks.with("folk 0 1;folk 0 0;hard 6 9;oath 1 0 6;").keeps(0, 0, 3));
        C.due("10 no room", NONE, Checks.with("folk 9 1;folk 0 0;oath 1 0 0;oath 1 0 1;").keeps(0, 0, 3));
        C.due("10 a clash", NONE, Checks.with("folk 9 4;folk 0 0;clash 1 0;oath 1 0 0;oath 1 0 1;").keeps(0, 0, 3));
        C.due("10 nothing sworn", 0, Checks.with("folk 9 0;folk 0 0;").keeps(0, 0, 3));
        C.due("10 one for both", 2, Checks.with("folk 3 2;folk 0 0;folk 0 0;oath 1 0 0;oath 2 0 1;oath 2 0 0;").keeps(0, 0, 3));
    }

    private static void promise10Hearten() {
        C.due("10 hearten", 3, Checks.with("folk 2 1;folk 0 0;oath 1 0 0;").keeps(0, 0, 5));
        C.due("10 up to 9", 9, Checks.with("folk 0 1;folk 0 0;hard 0 9;oath 1 0 0;").keeps(0, 0, 5));
        C.due("10 by a liked one", 2, Checks.with("folk 1 2;folk 0 0;likes 0 1;oath 1 0 0;oath 1 0 1;").keeps(0, 0, 5));
        C.due("10 no room", NONE, Checks.with("folk 1 1;folk 0 0;oath 1 0 0;oath 1 0 1;").keeps(0, 0, 5));
        C.due("10 nothing sworn", 0, Checks.with("folk 1 0;").keeps(0, 0, 5));
    }

    private static void promise11Heart() {
        SwornCounty x = Checks.with(COUNTY);
        C.due("11 heart", 8, x.heart(0, 0, 1));
        C.due("11 heart", 3, x.heart(0, 1, 0));
        C.due("11 heart", 5, x.heart(0, 3, 0));
        C.due("11 without an oath", 9, x.heart(0, 3, 2));
        C.due("11 liked, not liking", 2, x.heart(0, 0, 3));
        C.due("11 not two", NONE, x.heart(0, 1, 1));
        C.due("11 nobody", NONE, x.heart(0, 4, 1));
        C.due("11 nobody", NONE, x.heart(0, 1, 4));
        C.due("11 nobody", NONE, x.heart(0, -1, 1));
        C.due("11 nobody", NONE, x.heart(0, 1, -1));
        C.due("11 no such county", NONE, x.heart(1, 0, 1));
    }

    private static void promise12Fall() {
        SwornCounty x = Checks.with(COUNTY);
        int[] due = {3, 2, 18, 2, 15};
        for (int what = 0; what < 5; what++) C.due("12 fall " + what, due[what], x.fall(0, what));
        C.due("12 what 5", -2, x.fall(0, 5));
        C.due("12 what -1", -2, x.fall(0, -1));
        C.due("12 no such county", -2, x.fall(1, 0));
        C.due("12 no such county", -2, x.fall(-1, 0));
    }

    private static void promise12Strikes() {
        C.due("12 by the first oath", 2, Checks.with("folk 0 1;folk 0 0;oath 1 0 0;").fall(0, 0));
        // 0 clashes with both others: better to strike it than them, though both its oaths go.
        String clash = "folk 9 4;folk 0 0;folk 0 0;clash 0 1;clash 0 2;";
        SwornCounty x = Checks.with(clash + "oath 1 0 0;oath 1 0 1;oath 2 0 2;oath 2 0 1;oath 2 0 0;");
        C.due("12 strikes", 2, x.fall(0, 1));
        C.due("12 strikes", 17, x.fall(0, 2));
        // Two and two: the least number.
        x = Checks.with("folk 9 4;folk 0 0;folk 0 0;clash 0 1;oath 1 0 1;oath 2 0 1;oath 1 0 0;oath 2 0 0;");
        C.due("12 the least", 3, x.fall(0, 2));
        // Room for one of three: the one with two oaths stays, though it is not the one that is kept.
        x = Checks.with("folk 9 1;folk 0 0;folk 0 0;oath 1 0 0;oath 1 0 5;oath 2 0 5;oath 1 0 3;");
        C.due("12 strikes", 2, x.fall(0, 1));
        C.due("12 strikes", 9, x.fall(0, 2));
        C.due("12 kept all", 0, Checks.with("folk 9 1;folk 0 0;oath 1 0 0;").fall(0, 1));
        C.due("12 kept all", 0, Checks.with("folk 9 1;folk 0 0;oath 1 0 0;").fall(0, 2));
        C.due("12 kept none", 3, Checks.with("folk 0 1;folk 0 0;oath 1 0 0;oath 1 0 0;").fall(0, 2));
    }

    private static void promise12Rings() {
        String six = Checks.times("folk 0 0;", 6);
        SwornCounty x = Checks.with(six + "oath 0 1 0;oath 1 2 0;oath 2 0 0;oath 2 3 0;oath 3 4 0;");
        C.due("12 ring", 3, x.fall(0, 3));
        C.due("12 ringed", 7, x.fall(0, 4));
        // Not only the least ring counts.
        x = Checks.with(six + "oath 0 1 0;oath 1 0 0;oath 2 3 0;oath 3 4 0;oath 4 2 0;oath 5 4 0;");
        C.due("12 ring", 2, x.fall(0, 3));
        C.due("12 ringed", 31, x.fall(0, 4));
        x = Checks.with(six + "oath 0 1 0;oath 1 2 0;oath 2 3 0;oath 3 4 0;oath 4 5 0;oath 5 0 0;");
        C.due("12 ring of all", 6, x.fall(0, 3));
        C.due("12 ringed", 63, x.fall(0, 4));
        x = Checks.with(six + "oath 0 1 0;oath 0 2 0;oath 1 2 0;");
        C.due("12 no ring", NONE, x.fall(0, 3));
        C.due("12 none ringed", 0, x.fall(0, 4));
    }

    private static void rowIs(SwornCounty x, int most, int... row) {
        C.due("14 most", most, x.swearers(0, 0, NONE));
        for (int k = 0; k < row.length; k++) C.due("14 swearer " + k, row[k], x.swearers(0, 0, k));
        C.due("14 not so many", NONE, x.swearers(0, 0, row.length));
    }

    private static void promise14Swearers() {
        // 3 alone has heart for the first; 1 keeps 0 whoever swears.
        SwornCounty x = Checks.with(COUNTY, null, "want 0 2;want 1 0;want 3 7;", null);
        rowIs(x, 3, 3, 0, 1);
        C.due("14 k -2", NONE, x.swearers(0, 0, -2));
        C.due("14 no such county", NONE, x.swearers(1, 0, NONE));
        C.due("14 no such wants", NONE, x.swearers(0, 1, NONE));
        C.due("14 no such wants", NONE, x.swearers(0, -1, 0));
        // Of two wants one swearer can swear one only; the other one is sworn by nobody.
        rowIs(Checks.with("folk 9 4;folk 0 0;", null, "want 0 0;want 0 1;", null), 1, 1, 6);
        // Nothing can be kept: the first row all the same.
        rowIs(Checks.with("folk 0 4;folk 0 0;folk 0 0;", null, "want 0 0;want 1 1;want 0 2;", null), 0, 1, 0, 2);
        // The same want twice: both are kept, though one was sworn to no use.
        rowIs(Checks.with("folk 3 4;folk 0 0;folk 0 0;likes 0 2;", null, "want 0 0;want 0 0;", null), 2, 1, 2);
        // Oaths as told are none of these.
        rowIs(Checks.with("folk 9 1;folk 0 0;oath 1 0 0;", null, "want 0 3;", null), 1, 1);
        // Were all sworn, 0 would be kept, which is wanted once; 3 is wanted twice.
        rowIs(Checks.with("folk 9 1;folk 0 0;folk 0 0;folk 0 0;", null, "want 0 0;want 0 3;want 0 3;", null), 2, 6, 1, 2);
        rowIs(Checks.with("folk 9 1;", null, "want 0 0;", null), 0, 6);
        rowIs(Checks.with("folk 9 1;", null, "", null), 0);
        rowIs(Checks.with("", null, "", null), 0);
        x = Checks.with("folk 9 1;folk 9 1;", null, "want 0 0;want 2 0;", null);
        C.due("14 wanted of nobody", NONE, x.swearers(0, 0, NONE));
        C.due("14 wanted of nobody", NONE, x.swearers(0, 0, 0));
    }

    private static void promise15Dare() {
        // 0 has room for four, 1 for one.
        SwornCounty x = Checks.with("folk 9 4;folk 9 1;");
        int[] due = {0, 1, 0, 1};
        for (int n = 0; n <= 3; n++) C.due("15 dare " + n, due[n], x.dare(0, 1, 0, n, false));
        int[] other = {0, 1, 0, 0};
        for (int n = 0; n <= 3; n++) C.due("15 dare " + n, other[n], x.dare(0, 0, 1, n, false));
        C.due("15 nothing first", NONE, x.dare(0, 1, 0, 0, true));
        C.due("15 first", 0, x.dare(0, 1, 0, 1, true));
        C.due("15 n 4", -9, x.dare(0, 1, 0, 4, false));
        C.due("15 n -1", -9, x.dare(0, 1, 0, -1, true));
        C.due("15 not two", -9, x.dare(0, 1, 1, 1, false));
        C.due("15 nobody", -9, x.dare(0, 2, 1, 1, false));
        C.due("15 nobody", -9, x.dare(0, 1, 2, 1, true));
        C.due("15 nobody", -9, x.dare(0, 1, -1, 1, true));
        C.due("15 no such county", -9, x.dare(1, 0, 1, 1, false));
        // Only 5 is not too hard for 0.
        x = Checks.with("folk 3 4;folk 9 4;hard 5 3;");
        C.due("15 which first", 5, x.dare(0, 1, 0, 1, true));
        C.due("15 time enough for it later", 0, x.dare(0, 1, 0, 3, true));
        C.due("15 two each", 0, x.dare(0, 1, 0, 2, false));
        // Oaths as told are there; to swear what was sworn gains nothing.
        x = Checks.with("folk 9 4;folk 9 4;oath 1 0 0;oath 1 0 1;");
        C.due("15 as told", 2, x.dare(0, 1, 0, 0, false));
        C.due("15 as told", -2, x.dare(0, 0, 1, 0, false));
        C.due("15 a further one", 2, x.dare(0, 1, 0, 1, true));
        C.due("15 a further one", 3, x.dare(0, 1, 0, 1, false));
        // Though there were twelve.
        x = Checks.with("folk 9 4;folk 9 4;" + Checks.times("oath 1 0 0;", 12));
        C.due("15 a thirteenth", 2, x.dare(0, 1, 0, 1, false));
        // Nothing but 0 can be opened, by either.
        x = Checks.with("folk 3 4;folk 3 4;hard 0 3;");
        int[] one = {0, 1, 0, 0};
        for (int n = 0; n <= 3; n++) C.due("15 dare for 0 " + n, one[n], x.dare(0, 1, 0, n, false));
        C.due("15 first", 0, x.dare(0, 0, 1, 2, true));
        // 0 clashes with all others, 1 does not clash with 2.
        x = Checks.with("folk 9 4;folk 9 0;clash 0 1;clash 0 2;clash 0 3;clash 0 4;clash 0 5;clash 0 6;clash 0 7;");
        C.due("15 not the clashing one", 1, x.dare(0, 1, 0, 3, true));
        C.due("15 of three turns two", 2, x.dare(0, 1, 0, 3, false));
    }

    private static void chanceIs(SwornCounty x, int thing, int p, int n, int over, int under) {
        C.due("16 N " + thing + " " + p + " " + n, over, x.chance(0, 1, 0, thing, p, n, false));
        C.due("16 D " + thing + " " + p + " " + n, under, x.chance(0, 1, 0, thing, p, n, true));
    }

    private static void promise16Chance() {
        // HEART of 1 for 0 is 3; a thing t is 3 + t hard.
        SwornCounty x = Checks.with("folk 3 0;folk 0 0;hard 0 3;hard 1 4;hard 2 5;hard 3 6;hard 4 7;hard 5 8;hard 6 9;hard 7 0;");
        chanceIs(x, 0, 0, 0, 1, 1);
        chanceIs(x, 7, 5, 6, 1, 1);
        chanceIs(x, 1, 10, 0, 0, 1);
        chanceIs(x, 1, 5, 1, 1, 2);
        chanceIs(x, 1, 5, 2, 3, 4);
        chanceIs(x, 2, 3, 2, 9, 100);
        chanceIs(x, 6, 1, 6, 1, 1000000);
        chanceIs(x, 6, 10, 6, 1, 1);
        chanceIs(x, 6, 9, 5, 0, 1);
        chanceIs(x, 3, 5, 6, 21, 32);
        chanceIs(x, 1, 0, 6, 0, 1);
        C.due("16 likes", 1, Checks.with("folk 3 0;folk 0 0;likes 0 1;").chance(0, 1, 0, 0, 0, 0, false));
        int[][] wrong = {{0, 1, 1, 0, 5, 1}, {0, 2, 0, 0, 5, 1}, {0, 1, 2, 0, 5, 1}, {0, -1, 0, 0, 5, 1}, {0, 1, 0, 8, 5, 1},
            {0, 1, 0, -1, 5, 1}, {0, 1, 0, 0, 11, 1}, {0, 1, 0, 0, -1, 1}, {0, 1, 0, 0, 5, 7}, {0, 1, 0, 0, 5, -1}, {1, 1, 0, 0, 5, 1}};
        for (int[] w : wrong) {
            C.due("16 wrong", NONE, x.chance(w[0], w[1], w[2], w[3], w[4], w[5], false));
            C.due("16 wrong", NONE, x.chance(w[0], w[1], w[2], w[3], w[4], w[5], true));
        }
    }

    private static void promise18Fits() {
        SwornCounty x = Checks.with(COUNTY, null, null, "kept 0 3;broke 0 0;");
        // With a WILL of 4 it would be 0 that is kept; below 3 it is none; it needs any room.
        int[] due = {4, 3, NONE, 0, 3, 3};
        for (int what = 0; what < 6; what++) C.due("18 fits " + what, due[what], x.fits(0, 0, 0, what));
        for (int k = 0; k < 4; k++) C.due("18 the k-th", 31 + k, x.fits(0, 0, 0, 10 + k));
        C.due("18 not so many", -2, x.fits(0, 0, 0, 14));
        // The facts are so; of 1 all fits, who keeps 1 from a WILL of 6 on.
        int[] all = {50, NONE, NONE, 1, 0, 9};
        for (int what = 0; what < 6; what++) C.due("18 fits " + what, all[what], x.fits(0, 0, 1, what));
        C.due("18 the first", 0, x.fits(0, 0, 1, 10));
        C.due("18 the 6th", 10, x.fits(0, 0, 1, 15));
        C.due("18 the last", 94, x.fits(0, 0, 1, 59));
        C.due("18 not so many", -2, x.fits(0, 0, 1, 60));
        for (int what : new int[] {-1, 6, 7, 8, 9, Integer.MAX_VALUE, Integer.MIN_VALUE}) C.due("18 what", -2, x.fits(0, 0, 0, what));
        C.due("18 nobody", -2, x.fits(0, 0, 4, 0));
        C.due("18 nobody", -2, x.fits(0, 0, -1, 0));
        C.due("18 no such county", -2, x.fits(1, 0, 0, 0));
        C.due("18 no such log", -2, x.fits(0, 1, 0, 0));
        // Room of one, no more: 1 was sworn and open, but not kept.
        x = Checks.with("folk 0 0;folk 0 0;oath 1 0 0;oath 1 0 1;oath 1 0 2;", null, null, "kept 0 0;broke 0 1;");
        C.due("18 sure of room", 1, x.fits(0, 0, 0, 2));
        C.due("18 not of will", NONE, x.fits(0, 0, 0, 1));
        C.due("18 least", 5, x.fits(0, 0, 0, 4));
        C.due("18 most", 9, x.fits(0, 0, 0, 5));
        // One fits: it takes all WILL and ROOM to keep the four; two fit without the last of them.
        String four = "folk 0 0;folk 0 0;hard 0 9;oath 1 0 0;oath 1 0 1;oath 1 0 2;";
        x = Checks.with(four + "oath 1 0 3;", null, null, "kept 0 0;kept 0 1;kept 0 2;kept 0 3;");
        int[] single = {1, 9, 4, 0, 9, 9};
        for (int what = 0; what < 6; what++) C.due("18 one fits " + what, single[what], x.fits(0, 0, 0, what));
        C.due("18 the one", 94, x.fits(0, 0, 0, 10));
        x = Checks.with(four, null, null, "kept 0 0;kept 0 1;kept 0 2;");
        int[] couple = {2, 9, NONE, 0, 9, 9};
        for (int what = 0; what < 6; what++) C.due("18 two fit " + what, couple[what], x.fits(0, 0, 0, what));
        // Things of 1 and 9: by whether 6 (5 hard) is kept, the ten wills are parted best.
        x = Checks.with("folk 0 0;folk 0 0;hard 1 1;hard 2 9;oath 1 0 1;oath 1 0 2;oath 1 0 6;", null, null, "kept 0 1;");
        C.due("18 ask", 6, x.fits(0, 0, 0, 3));
    }

    private static void promise18NothingFits() {
        String[] logs = {"kept 0 0;", "broke 0 1;kept 0 1;", "broke 2 0;", "kept 2 0;", "kept 1 0;"};
        for (String log : logs) {
            SwornCounty x = Checks.with("folk 9 4;folk 9 4;oath 1 0 1;", null, null, log);
            int[] due = {0, NONE, NONE, NONE, NONE, NONE};
            for (int what = 0; what < 6; what++) C.due("18 " + log + what, due[what], x.fits(0, 0, 0, what));
            C.due("18 " + log + " the first", -2, x.fits(0, 0, 0, 10));
        }
    }

    private static void promise19Drawn() {
        SwornCounty x = Checks.with("folk 5 2;folk 5 2;folk 5 2;");
        // By 0: swear 2 0 5, rest 0, monday, swear 1 0 4, cut 2 1 (which can't be), visit 1 0.
        int[][] due = {{0, 0, 0}, {1, 4, 1}, {1, 20, 32}, {2, 10, 6}, {3, 0, 1}, {3, 1, 1}, {3, 4, 0}, {5, 20, 16}, {6, 50, 1}, {6, 41, 0}};
        for (int[] d : due) C.due("19 drawn by 0 " + d[0] + " " + d[1], d[2], x.drawn(0, 0, d[0], d[1]));
        // By -5: swear 1 0 4, swear 1 2 0, swear 1 0 4 (which is there), swear 1 2 4, visit 1 2, visit 2 1.
        C.due("19 drawn by -5", 2, x.drawn(0, -5, 3, 4));
        C.due("19 drawn by -5", 3, x.drawn(0, -5, 6, 4));
        C.due("19 drawn by -5", 17, x.drawn(0, -5, 6, 22));
        C.due("19 drawn by -5", 1, x.drawn(0, -5, 6, 51));
        C.due("19 n 60", x.drawn(0, 9, 60, 0), x.drawn(0, 9, 60, 0));
        C.due("19 n 61", NONE, x.drawn(0, 9, 61, 0));
        C.due("19 n -1", NONE, x.drawn(0, 9, -1, 0));
        C.due("19 what 5", NONE, x.drawn(0, 9, 1, 5));
        C.due("19 what 13", NONE, x.drawn(0, 9, 1, 13));
        C.due("19 no such county", NONE, x.drawn(1, 9, 1, 0));
        // One alone: only 8 and 9 do anything, and 0 to 7 draw no more.
        x = Checks.with("folk 5 2;");
        PlainCounty plain = new PlainCounty();
        plain.feed(0x666f6c6b, 0x20352032, 0x3b202020, 0x20202020, 0x20202020);
        plain.text(0, NONE);
        for (int n = 0; n <= 60; n += 4)
            for (int what = 0; what <= 10; what++) C.due("19 one alone", plain.drawn(0, 77, n, what), x.drawn(0, 77, n, what));
    }

    private static void promise20Lone() {
        SwornCounty x = Checks.with(COUNTY);
        int[] due = {0, 0, 0, 0, 1, 0, 7, 247, 1, 13, 0};
        for (int what = 0; what < due.length; what++) C.due("20 lone " + what, due[what], x.lone(0, what));
        C.due("20 what 16", -2, x.lone(0, 16));
        C.due("20 what -1", -2, x.lone(0, -1));
        C.due("20 what min", -2, x.lone(0, Integer.MIN_VALUE));
        C.due("20 no such county", -2, x.lone(1, 0));
        C.due("20 no such county", -2, x.lone(-1, 7));
        x = Checks.with("folk 5 1;folk 5 1;folk 5 1;folk 5 1;likes 0 2;likes 1 2;likes 2 0;hard 3 6;hard 6 6;"
            + "oath 1 3 0;oath 1 3 4;oath 3 1 1;oath 2 3 3;oath 3 2 2;");
        // 3 keeps 0 of 0 and 4 (3 is too hard).
        int[] then = {1, 1, 1, 3, 2, 2, 8, 255, 3, 21, 1};
        for (int what = 0; what < then.length; what++) C.due("20 lone " + what, then[what], x.lone(0, what));
        // A chain of clashes 0-1-2-3: 0 and 2, 0 and 3, or 1 and 3.
        x = Checks.with("clash 0 1;clash 1 2;clash 2 3;");
        C.due("20 peace", 6, x.lone(0, 6));
        C.due("20 peace", 0xf5, x.lone(0, 7));
        // The one struck out is none of the others.
        x = Checks.with("folk 5 0;folk 5 1;oath 1 0 0;");
        C.due("20 no spoiler", 0, x.lone(0, 10));
        C.due("20 not safe", 0, x.lone(0, 9));
    }

    private static void promise20More() {
        SwornCounty x = Checks.with("folk 5 1;folk 4 2;oath 0 1 0;");
        C.due("20 more", 8, x.lone(0, 11));
        C.due("20 the first", 100, x.lone(0, 12));
        // 0 has room for 3 alone: no lesser one may come, no greater one would be kept.
        x = Checks.with("folk 5 1;folk 5 1;oath 1 0 3;");
        C.due("20 more", 8, x.lone(0, 11));
        C.due("20 the first", 10, x.lone(0, 12));
        // What another one swore, too, is not BROKEN, though the heart is too small; what is there is none.
        x = Checks.with("folk 3 1;folk 0 0;folk 0 0;likes 0 1;oath 1 0 6;");
        C.due("20 more", 1, x.lone(0, 11));
        C.due("20 the first", 206, x.lone(0, 12));
        x = Checks.with("folk 0 4;folk 0 4;");
        C.due("20 none", 0, x.lone(0, 11));
        C.due("20 none", NONE, x.lone(0, 12));
        C.due("20 none to swear", 0, Checks.with("folk 9 4;").lone(0, 11));
    }

    private static void weakIs(String county, int who, int over, int under) {
        SwornCounty x = Checks.with(county);
        C.due("20 weak", who, x.lone(0, 13));
        C.due("20 weak N", over, x.lone(0, 14));
        C.due("20 weak D", under, x.lone(0, 15));
    }

    private static void promise20Weak() {
        weakIs(COUNTY, 2, 0, 1);
        weakIs("folk 9 4;", NONE, NONE, NONE);
        weakIs("folk 9 4;folk 0 0;oath 1 0 3;", 0, 1, 1);
        // Two of four, and one of two: the least.
        weakIs("folk 9 1;folk 9 2;oath 0 1 0;oath 0 1 1;oath 0 1 2;oath 0 1 3;oath 1 0 0;oath 1 0 1;", 0, 1, 2);
        // Three of four, and two of three; a thing sworn twice is one.
        weakIs("folk 9 3;folk 9 2;oath 1 0 0;oath 1 0 1;oath 1 0 2;oath 1 0 3;oath 0 1 0;oath 0 1 1;oath 0 1 2;oath 0 1 2;", 1, 2, 3);
    }

    private static void chainIs(String county, int... row) {
        SwornCounty x = Checks.with(county);
        C.due("21 how many", row.length, x.chain(0, NONE));
        for (int k = 0; k < row.length; k++) C.due("21 chain " + k, row[k], x.chain(0, k));
        C.due("21 not so many", NONE, x.chain(0, row.length));
        C.due("21 k -2", NONE, x.chain(0, -2));
        C.due("21 no such county", NONE, x.chain(1, NONE));
    }

    private static void promise21Chain() {
        chainIs(COUNTY, 1, 0, 2, 3);
        chainIs("");
        chainIs("folk 0 0;folk 0 0;", 0);
        chainIs("folk 0 0;folk 0 0;oath 1 0 0;", 1, 0);
        chainIs(Checks.times("folk 0 0;", 6) + "oath 5 4 0;oath 4 3 0;oath 3 2 0;oath 2 1 0;oath 1 0 0;", 5, 4, 3, 2, 1, 0);
        chainIs(Checks.times("folk 0 0;", 4) + "oath 0 3 0;oath 0 2 0;oath 2 1 0;oath 3 1 0;", 0, 2, 1);
    }

    private static void promise22Steps() {
        SwornCounty x = Checks.with(Checks.times("folk 0 0;", 6) + "likes 0 1;likes 1 2;likes 2 3;likes 3 4;likes 4 5;likes 0 3;");
        C.due("22 steps", 1, x.steps(0, 0, 1));
        C.due("22 the fewest", 1, x.steps(0, 0, 3));
        C.due("22 the fewest", 3, x.steps(0, 0, 5));
        C.due("22 steps", 4, x.steps(0, 1, 5));
        C.due("22 none back", NONE, x.steps(0, 1, 0));
        C.due("22 to themselves", 0, x.steps(0, 5, 5));
        C.due("22 nobody", NONE, x.steps(0, 0, 6));
        C.due("22 nobody", NONE, x.steps(0, -1, 0));
        C.due("22 nobody", NONE, x.steps(0, 6, 6));
        C.due("22 no such county", NONE, x.steps(1, 0, 0));
        x = Checks.with(Checks.times("folk 0 0;", 6) + "likes 0 1;likes 1 2;likes 2 3;likes 3 4;likes 4 5;");
        C.due("22 by all", 5, x.steps(0, 0, 5));
    }

    private static void promise23After() {
        SwornCounty x = Checks.with(COUNTY, TERM, null, null);
        int[] due = {1, 0, 1, 3, 3};
        for (int what = 0; what < 5; what++) C.due("23 after " + what, due[what], x.after(0, 0, what));
        C.due("23 what 5", -2, x.after(0, 0, 5));
        C.due("23 what -1", -2, x.after(0, 0, -1));
        C.due("23 no such county", -2, x.after(1, 0, 0));
        C.due("23 no such term", -2, x.after(0, 1, 0));
        x = Checks.with("folk 9 1;folk 9 1;folk 9 1;", "visit 0 2;visit 1 2;visit 2 1;swear 0 1 0;monday;swear 0 1 0;swear 1 0 0;"
            + "monday;swear 2 1 5;swear 2 1 6;monday;tire 5;swear 0 2 1;", null, null);
        int[] then = {10, 2, 2, 0, 5};
        for (int what = 0; what < 5; what++) C.due("23 after " + what, then[what], x.after(0, 0, what));
        x = Checks.with(COUNTY, "", null, null);
        int[] none = {NONE, NONE, NONE, 2, 0};
        for (int what = 0; what < 5; what++) C.due("23 after " + what, none[what], x.after(0, 0, what));
        // Mondays on which none was kept: the first of them.
        x = Checks.with("folk 0 0;", "monday;monday;", null, null);
        C.due("23 best", 1, x.after(0, 0, 2));
    }

    private static void nobodyThere() {
        SwornCounty x = Checks.with("", "monday;tire 0;", "", "");
        C.due("8 nobody", 1, x.stop(0, 0));
        C.due("9 nobody", 1, x.state(0, 0, 1, 0));
        C.due("9 nobody", NONE, x.state(0, 0, 1, 10));
        C.due("10 nobody", -99, x.keeps(0, 0, 0));
        int[] fall = {0, 0, 0, NONE, 0};
        for (int what = 0; what < 5; what++) C.due("12 nobody " + what, fall[what], x.fall(0, what));
        int[] lone = {0, 0, NONE, NONE, 0, NONE, 8, 255, 0, 0, 0, 0, NONE, NONE, NONE, NONE};
        for (int what = 0; what < 16; what++) C.due("20 nobody " + what, lone[what], x.lone(0, what));
        C.due("18 nobody", -2, x.fits(0, 0, 0, 0));
        C.due("22 nobody", NONE, x.steps(0, 0, 0));
        // Nothing but the first number of each is drawn, and Mondays come.
        int mondays = 0;
        int seed = 0;
        for (int n = 1; n <= 60; n++) {
            seed = seed * 1103515245 + 12345;
            mondays += (seed >>> 16) % 10 == 9 ? 1 : 0;
            C.due("19 nobody " + n, mondays, x.drawn(0, 0, n, 0));
        }
    }
}
