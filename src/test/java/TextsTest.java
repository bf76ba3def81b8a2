/** Promises 1 to 7, 13, 17 and 24 to 26: the tape, texts, FAULTS, what was told, images. */
public final class TextsTest {
    private static final int NONE = SwornCounty.NONE;
    private static final Checks C = new Checks();

    private static final String COUNTY = "folk 3 2;folk 6 1;folk 9 0;folk 2 4;hard 0 4;hard 1 8;hard 7 0;clash 0 3;"
        + "likes 1 0;likes 0 3;oath 0 1 1;oath 1 0 0;oath 3 0 3;oath 2 3 7;oath 0 2 7;";

    public static void main(String[] args) {
        promise1NewObject();
        promise2Feed();
        promise3End();
        promise4Text();
        promise4NoPlace();
        promise5Fault1();
        promise5Fault2();
        promise5Fault3();
        promise5Fault4();
        promise5Fault();
        promise6County();
        promise7Deed();
        promise13Want();
        promise17Fact();
        promise24Count();
        promise25And26Images();
        C.close("TextsTest");
    }

    private static void promise1NewObject() {
        SwornCounty x = new SwornCounty();
        C.due("NONE", -1, SwornCounty.NONE);
        for (int sort = 0; sort < 4; sort++) C.due("1 count", 0, x.count(sort));
        for (int k = 0; k < 3; k++) C.due("1 again", false, x.again(k));
        C.due("1 end(0)", 0, x.end(0));
        C.due("1 end(1)", NONE, x.end(1));
        C.due("1 fault(0)", 0, x.fault(0));
        C.due("1 fault(1)", NONE, x.fault(1));
        C.due("1 county", NONE, x.county(0, 0));
        C.due("1 stop", NONE, x.stop(0, 0));
        C.due("1 state", NONE, x.state(0, 0, 0, 0));
        C.due("1 keeps", -99, x.keeps(0, 0, 0));
        C.due("1 heart", NONE, x.heart(0, 0, 1));
        C.due("1 fall", -2, x.fall(0, 0));
        C.due("1 want", -2, x.want(0, NONE, 0));
        C.due("1 swearers", NONE, x.swearers(0, 0, NONE));
        C.due("1 dare", -9, x.dare(0, 0, 1, 0, false));
        C.due("1 chance", NONE, x.chance(0, 0, 1, 0, 0, 0, false));
        C.due("1 fact", -2, x.fact(0, NONE, 0));
        C.due("1 fits", -2, x.fits(0, 0, 0, 0));
        C.due("1 drawn", NONE, x.drawn(0, 0, 0, 0));
        C.due("1 lone", -2, x.lone(0, 0));
        C.due("1 chain", NONE, x.chain(0, NONE));
        C.due("1 steps", NONE, x.steps(0, 0, 0));
        C.due("1 after", -2, x.after(0, 0, 0));
        C.due("1 deed", -2, x.deed(0, NONE, 0));
    }

    private static void promise2Feed() {
        SwornCounty x = new SwornCounty();
        // "want 1 2;" and eleven blanks: the highest byte of each number comes first.
        C.due("2 feed", 20, x.feed(0x77616e74, 0x20312032, 0x3b202020, 0x20202020, 0x20202020));
        C.due("2 text", 0, x.text(2, NONE));
        C.due("2 who", 1, x.want(0, 0, 0));
        C.due("2 thing", 2, x.want(0, 0, 1));
        for (int i = 1; i <= 30; i++) C.due("2 feed " + i, 20 * i, x.feed(-1, 0, 1, 2, 3));
        C.due("2 feed 31", NONE, x.feed(0, 0, 0, 0, 0));
        C.due("2 end", 581, x.end(581));
        C.due("2 feed beyond", NONE, x.feed(0, 0, 0, 0, 0));
        C.due("2 nothing came", NONE, x.end(582));
        C.due("2 end", 580, x.end(580));
        C.due("2 feed up to 600", 600, x.feed(0, 0, 0, 0, 0));
    }

    private static void promise3End() {
        SwornCounty x = new SwornCounty();
        x.feed(0, 0, 0, 0, 0);
        C.due("3 end(21)", NONE, x.end(21));
        C.due("3 end(-1)", NONE, x.end(-1));
        C.due("3 end(min)", NONE, x.end(Integer.MIN_VALUE));
        C.due("3 end(20)", 20, x.end(20));
        C.due("3 end(7)", 7, x.end(7));
        C.due("3 end(8)", NONE, x.end(8));
        C.due("3 feed", 27, x.feed(0, 0, 0, 0, 0));
        // What stood behind the end does not come back.
        x.end(0);
        Checks.feed(x, "folk 1 1;folk 2 2;");
        x.end(9);
        C.due("3 text", 0, x.text(0, NONE));
        C.due("3 folk", 1, x.county(0, 0));
    }

    private static void promise4Text() {
        SwornCounty x = new SwornCounty();
        String[] texts = {"folk 1 1;", "monday;", "want 0 0;", "kept 0 0;"};
        for (int sort = 0; sort < 4; sort++) {
            C.due("4 none to replace", -2, Checks.tell(x, sort, 0, texts[sort]));
            C.due("4 first", 0, Checks.tell(x, sort, NONE, texts[sort]));
            C.due("4 tape is empty then", NONE, x.end(1));
            C.due("4 below", -2, Checks.tell(x, sort, -2, texts[sort]));
            C.due("4 beyond", -2, Checks.tell(x, sort, 1, texts[sort]));
            C.due("4 second", 1, Checks.tell(x, sort, NONE, texts[sort]));
            C.due("4 third", -2, Checks.tell(x, sort, NONE, texts[sort]));
            C.due("4 no fault", 0, x.fault(0));
            C.due("4 again", 0, Checks.tell(x, sort, 0, texts[sort] + texts[sort]));
            C.due("4 wrong text", NONE, Checks.tell(x, sort, 1, "nobody;"));
            C.due("4 empty after a fault", NONE, x.end(1));
            C.due("4 last", 1, Checks.tell(x, sort, 1, ""));
        }
        C.due("4 replaced", 2, x.county(0, 0));
        C.due("4 replaced", 0, x.county(1, 0));
        C.due("4 replaced", 2, x.deed(0, NONE, 0));
        C.due("4 kept as it was", NONE, Checks.tell(x, 0, 0, "folk 1 1;folk 1 1;folk 1 1"));
        C.due("4 kept as it was", 2, x.county(0, 0));
        C.due("4 no such sort", -2, Checks.tell(x, 4, NONE, "monday;"));
        C.due("4 fault 0 then", 0, x.fault(0));
        C.due("4 no place then", NONE, x.fault(1));
        C.due("4 the tape is taken all the same", NONE, x.end(1));
        C.due("4 no such sort", -2, x.text(-1, NONE));
        C.due("4 no such sort", -2, x.text(Integer.MAX_VALUE, 0));
        C.due("4 a text of another sort", NONE, Checks.tell(x, 0, 0, "monday;"));
    }

    /** Behind -2 no text is read and the FAULT is 0, but the tape is empty as behind any text(). */
    private static void promise4NoPlace() {
        int[][] noPlace = {{0, 2}, {0, -2}, {1, 0}, {1, Integer.MIN_VALUE}, {2, Integer.MAX_VALUE}, {3, 1},
            {0, NONE}, {4, NONE}, {4, 0}, {-1, NONE}, {Integer.MIN_VALUE, 0}, {Integer.MAX_VALUE, 1}};
        for (int[] p : noPlace) {
            String call = "4 text(" + p[0] + ", " + p[1] + ")";
            SwornCounty x = new SwornCounty();
            Checks.tell(x, 0, NONE, "folk 1 1;");
            Checks.tell(x, 0, NONE, "folk 2 2;folk 3 3;");
            C.due(call + " a fault before", NONE, Checks.tell(x, 1, NONE, "nobody;"));
            Checks.feed(x, "folk 4 4;folk 4 4;folk 4 4;");
            C.due(call, -2, x.text(p[0], p[1]));
            C.due(call + " fault", 0, x.fault(0));
            C.due(call + " place", NONE, x.fault(1));
            C.due(call + " no text is read", 1, x.county(0, 0));
            C.due(call + " no text is read", 2, x.county(1, 0));
            C.due(call + " the tape is empty", 20, x.feed(0, 0, 0, 0, 0));
            C.due(call + " again", -2, x.text(p[0], p[1]));
            C.due(call + " with an empty tape", -2, x.text(p[0], p[1]));
            C.due(call + " the tape is empty", NONE, x.end(1));
            C.due(call + " the tape is empty", 0, x.end(0));
        }
    }

    private static void fault(String call, int sort, String text, int fault, int place) {
        SwornCounty x = new SwornCounty();
        C.due(call + " text " + text, fault == 0 ? 0 : NONE, Checks.tell(x, sort, NONE, text));
        C.due(call + " fault " + text, fault, x.fault(0));
        C.due(call + " place " + text, place, x.fault(1));
    }

    private static void promise5Fault1() {
        fault("5", 0, "", 0, NONE);
        fault("5", 0, " \n ", 0, NONE);
        fault("5", 0, "\nfolk1\n02 ;folk 09 4;", 0, NONE);
        fault("5", 0, "folk 1 1;\tfolk 1 1;", 1, 9);
        fault("5", 0, "Folk 1 1;", 1, 0);
        fault("5", 0, "fol 1 1;", 1, 0);
        fault("5", 0, "golk 1 1;", 1, 0);
        fault("5", 0, "fold 1 1;", 1, 0);
        fault("5", 0, "folks 1 1;", 1, 0);
        fault("5", 0, "  folk#1 1;", 1, 6);
        fault("5", 0, "folk 1;", 1, 6);
        fault("5", 0, "folk 1 1 1;", 1, 9);
        fault("5", 0, "folk 1 1", 1, 8);
        fault("5", 0, "folk 1 1  ", 1, 10);
        fault("5", 0, "folk", 1, 4);
        fault("5", 0, ";", 1, 0);
        fault("5", 0, "folk 1 1;;", 1, 9);
        fault("5", 0, "folk 1 001;", 1, 7);
        fault("5", 0, "folk 1 1;123", 1, 9);
        fault("5", 0, "folk 1 -1;", 1, 7);
        fault("5", 0, "7 folk", 1, 0);
        fault("5", 0, "oath 0 1;", 1, 8);
        fault("5", 0, "monday;", 1, 0);
        fault("5", 1, "monday 1;", 1, 7);
        fault("5", 1, "tire 1 1;", 1, 7);
        fault("5", 1, "visit 1;", 1, 7);
        fault("5", 1, "swear 1 0;", 1, 9);
        fault("5", 1, "oath 1 0 0;", 1, 0);
        fault("5", 2, "kept 1 1;", 1, 0);
        fault("5", 3, "want 1 1;", 1, 0);
        fault("5", 2, "want 1 1;" + (char) 233, 1, 9);
        // Wherever it stands, it goes before all others.
        fault("5", 0, "folk 99 99;folk 1 1", 1, 19);
        fault("5", 1, Checks.times("monday;", 41) + "x", 1, 287);
    }

    private static void promise5Fault2() {
        fault("5", 0, "folk 10 0;", 2, 5);
        fault("5", 0, "folk 0 5;", 2, 7);
        fault("5", 0, "hard 8 0;", 2, 5);
        fault("5", 0, "hard 0 10;", 2, 7);
        fault("5", 0, "clash 8 0;", 2, 6);
        fault("5", 0, "clash 0 8;", 2, 8);
        fault("5", 0, "clash 1 01;", 2, 8);
        fault("5", 0, "likes 6 0;", 2, 6);
        fault("5", 0, "likes 0 6;", 2, 8);
        fault("5", 0, "likes 0 0;", 2, 8);
        fault("5", 0, "oath 6 0 0;", 2, 5);
        fault("5", 0, "oath 0 6 0;", 2, 7);
        fault("5", 0, "oath 0 0 0;", 2, 7);
        fault("5", 0, "oath 0 1 8;", 2, 9);
        fault("5", 0, "hard 7 7;folk 4 4;", 0, NONE);
        fault("5", 1, "tire 6;", 2, 5);
        fault("5", 1, "rest 6;", 2, 5);
        for (String word : new String[] {"visit", "court", "cut", "swear"}) {
            int at = word.length();
            String rest = word.equals("swear") ? " 0;" : ";";
            fault("5", 1, word + " 6 0" + rest, 2, at + 1);
            fault("5", 1, word + " 0 6" + rest, 2, at + 3);
            fault("5", 1, word + " 3 3" + rest, 2, at + 3);
            fault("5", 1, word + " 5 4" + rest, 0, NONE);
        }
        fault("5", 1, "swear 0 1 8;", 2, 10);
        fault("5", 2, "want 6 0;", 2, 5);
        fault("5", 2, "want 0 8;", 2, 7);
        fault("5", 2, "want 5 5;", 0, NONE);
        fault("5", 3, "kept 6 0;", 2, 5);
        fault("5", 3, "broke 0 8;", 2, 8);
        fault("5", 3, "broke 5 5;", 0, NONE);
        // The first by place.
        fault("5", 0, "folk 1 9;folk 10 1;", 2, 7);
        fault("5", 0, "oath 0 1 0;folk 10 1;", 2, 16);
    }

    private static void promise5Fault3() {
        String folk = Checks.times("folk 0 0;", 6);
        fault("5", 0, folk, 0, NONE);
        fault("5", 0, folk + "folk 0 0;", 3, 54);
        fault("5", 0, folk + "folk 10 0;", 3, 54);
        fault("5", 0, Checks.times("folk 0 0;", 5) + "folk 0 9;folk 0 0;", 2, 52);
        String oaths = "folk 0 0;folk 0 0;" + Checks.times("oath 0 1 0;", 12);
        fault("5", 0, oaths, 0, NONE);
        fault("5", 0, oaths + " oath 0 1 0;", 3, 151);
        fault("5", 1, Checks.times("monday;", 40), 0, NONE);
        fault("5", 1, Checks.times("monday;", 41), 3, 280);
        fault("5", 1, Checks.times("tire0;", 100), 3, 240);
        fault("5", 2, Checks.times("want 0 0;", 6), 0, NONE);
        fault("5", 2, Checks.times("want 0 0;", 7), 3, 54);
        fault("5", 3, Checks.times("kept 0 0;", 4) + Checks.times("broke 0 0;", 4), 0, NONE);
        fault("5", 3, Checks.times("kept 0 0;", 4) + Checks.times("broke 0 0;", 5), 3, 76);
        // A line with a wrong number counts all the same.
        SwornCounty x = new SwornCounty();
        C.due("5 both", NONE, Checks.tell(x, 2, NONE, Checks.times("want 0 0;", 6) + "want 9 9;"));
        C.due("5 the 7th is first", 3, x.fault(0));
        // Lines of which there may be any number.
        fault("5", 0, "folk 1 1;folk 1 1;" + Checks.times("hard 0 1;likes 0 1;clash 0 1;", 15), 0, NONE);
    }

    private static void promise5Fault4() {
        fault("5", 0, "likes 0 1;", 4, 10);
        fault("5", 0, "folk 1 1;likes 0 1; ", 4, 20);
        fault("5", 0, "folk 1 1;likes 1 0;", 4, 19);
        fault("5", 0, "folk 1 1;oath 0 1 0;", 4, 20);
        fault("5", 0, "oath 1 0 0;folk 1 1;", 4, 20);
        fault("5", 0, "oath 1 0 0;likes 0 1;folk 1 1;folk 1 1;", 0, NONE);
        fault("5", 0, "likes 0 5;folk 1 5;", 2, 17);
        fault("5", 1, "visit 4 5;", 0, NONE);
    }

    private static void promise5Fault() {
        SwornCounty x = new SwornCounty();
        Checks.tell(x, 0, NONE, "folk 1 7;");
        C.due("5 fault(0)", 2, x.fault(0));
        C.due("5 fault(2)", NONE, x.fault(2));
        C.due("5 fault(-1)", NONE, x.fault(-1));
        Checks.tell(x, 0, NONE, "folk 1 4;");
        C.due("5 of the latest", 0, x.fault(0));
        C.due("5 of the latest", NONE, x.fault(1));
    }

    private static void promise6County() {
        SwornCounty x = Checks.with(COUNTY);
        int[][] due = {{0, 4}, {1, 5}, {10, 3}, {11, 6}, {12, 9}, {13, 2}, {20, 2}, {21, 1}, {22, 0}, {23, 4},
            {30, 8}, {31, 1}, {32, 0}, {33, 0}, {40, 4}, {41, 8}, {42, 5}, {46, 5}, {47, 0}, {50, 8}, {53, 1}, {51, 0},
            {57, 0}, {100, 0}, {101, 1}, {102, 3}, {103, 2}, {104, 0}, {200, 1}, {201, 0}, {202, 0}, {203, 3},
            {204, 2}, {300, 1}, {301, 0}, {302, 3}, {303, 7}, {304, 7}};
        for (int[] d : due) C.due("6 county " + d[0], d[1], x.county(0, d[0]));
        int[] none = {-1, 2, 9, 14, 15, 19, 24, 29, 34, 39, 48, 49, 58, 59, 60, 99, 105, 112, 199, 205, 305, 400, 404,
            1000, Integer.MAX_VALUE, Integer.MIN_VALUE};
        for (int what : none) C.due("6 county " + what, NONE, x.county(0, what));
        C.due("6 none such", NONE, x.county(1, 0));
        C.due("6 none such", NONE, x.county(-1, 0));
        // Later ones strike (hard); oaths told twice are two.
        x = Checks.with("folk 1 1;folk 2 2;hard 3 1;hard 3 2;oath 0 1 0;oath 0 1 0;clash 1 2;clash 2 1;clash 1 3;likes 0 1;likes 0 1;");
        C.due("6 the later", 2, x.county(0, 43));
        C.due("6 two", 2, x.county(0, 1));
        C.due("6 clashes", 12, x.county(0, 51));
        C.due("6 clashes", 2, x.county(0, 52));
        C.due("6 clashes", 2, x.county(0, 53));
        C.due("6 likes", 2, x.county(0, 30));
    }

    private static void promise7Deed() {
        SwornCounty x = Checks.with(null, "monday;tire 1;rest 2;visit 3 4;court 4 5;cut 5 0;swear 0 1 7;", null, null);
        int[][] due = {{0, -1, -1, -1}, {1, 1, -1, -1}, {2, 2, -1, -1}, {3, 3, 4, -1}, {4, 4, 5, -1}, {5, 5, 0, -1}, {6, 0, 1, 7}};
        C.due("7 how many", 7, x.deed(0, NONE, 0));
        for (int k = 0; k < 7; k++)
            for (int what = 0; what < 4; what++) C.due("7 deed " + k + " " + what, due[k][what], x.deed(0, k, what));
        C.due("7 what 1", -2, x.deed(0, NONE, 1));
        C.due("7 what 4", -2, x.deed(0, 0, 4));
        C.due("7 what -1", -2, x.deed(0, 0, -1));
        C.due("7 k 7", -2, x.deed(0, 7, 0));
        C.due("7 k -2", -2, x.deed(0, -2, 0));
        C.due("7 term 1", -2, x.deed(1, 0, 0));
        C.due("7 term -1", -2, x.deed(-1, NONE, 0));
        C.due("7 what of no line", -2, x.deed(0, Integer.MAX_VALUE, 3));
    }

    private static void promise13Want() {
        SwornCounty x = Checks.with(null, null, "want 0 2;want 1 0;want 3 7;", null);
        C.due("13 how many", 3, x.want(0, NONE, 0));
        int[][] due = {{0, 2}, {1, 0}, {3, 7}};
        for (int k = 0; k < 3; k++)
            for (int what = 0; what < 2; what++) C.due("13 want " + k, due[k][what], x.want(0, k, what));
        C.due("13 what 1", -2, x.want(0, NONE, 1));
        C.due("13 what 2", -2, x.want(0, 0, 2));
        C.due("13 what -1", -2, x.want(0, 0, -1));
        C.due("13 what max", -2, x.want(0, 0, Integer.MAX_VALUE));
        C.due("13 k 3", -2, x.want(0, 3, 0));
        C.due("13 k -2", -2, x.want(0, -2, 0));
        C.due("13 wants 1", -2, x.want(1, 0, 0));
        C.due("13 wants -1", -2, x.want(-1, NONE, 0));
    }

    private static void promise17Fact() {
        SwornCounty x = Checks.with(null, null, null, "kept 0 3;broke 5 7;");
        C.due("17 how many", 2, x.fact(0, NONE, 0));
        int[][] due = {{1, 0, 3}, {0, 5, 7}};
        for (int k = 0; k < 2; k++)
            for (int what = 0; what < 3; what++) C.due("17 fact " + k, due[k][what], x.fact(0, k, what));
        C.due("17 what 1", -2, x.fact(0, NONE, 1));
        C.due("17 what 3", -2, x.fact(0, 0, 3));
        C.due("17 what -1", -2, x.fact(0, 0, -1));
        C.due("17 k 2", -2, x.fact(0, 2, 0));
        C.due("17 k -2", -2, x.fact(0, -2, 0));
        C.due("17 log 1", -2, x.fact(1, 0, 0));
        C.due("17 log -1", -2, x.fact(-1, NONE, 0));
    }

    private static void promise24Count() {
        SwornCounty x = Checks.with("", "", "", "");
        Checks.tell(x, 2, NONE, "want 1 1;");
        int[] due = {1, 1, 2, 1};
        for (int sort = 0; sort < 4; sort++) C.due("24 count " + sort, due[sort], x.count(sort));
        C.due("24 count 4", -2, x.count(4));
        C.due("24 count -1", -2, x.count(-1));
        Checks.tell(x, 2, 1, "want 1 9;");
        C.due("24 a fault takes none away", 2, x.count(2));
    }

    private static void promise25And26Images() {
        SwornCounty x = Checks.with("folk 1 1;", "monday;", "want 0 0;", "kept 0 0;");
        C.due("25 image 3", false, x.image(3));
        C.due("25 image -1", false, x.image(-1));
        C.due("26 again 0", false, x.again(0));
        Checks.feed(x, "folk");
        C.due("25 image 0", true, x.image(0));
        x.end(0);
        C.due("26 other text", 0, Checks.tell(x, 0, 0, "folk 2 2;folk 3 3;"));
        Checks.tell(x, 1, NONE, "");
        Checks.tell(x, 2, 0, "");
        Checks.tell(x, 3, NONE, "broke 1 1;");
        Checks.tell(x, 0, NONE, "folk 1 9;");
        C.due("25 image 2", true, x.image(2));
        C.due("26 again 1", false, x.again(1));
        C.due("26 again 0", true, x.again(0));
        C.due("26 the tape", 4, x.end(4));
        C.due("26 the tape", NONE, x.end(5));
        C.due("26 no fault", 0, x.fault(0));
        C.due("26 county", 1, x.county(0, 0));
        C.due("26 will", 1, x.county(0, 10));
        C.due("26 keeps", 0, x.keeps(0, 0, 2));
        C.due("26 terms", 1, x.count(1));
        C.due("26 wants", 1, x.want(0, NONE, 0));
        C.due("26 logs", 1, x.count(3));
        Checks.feed(x, " 9 4;");
        C.due("26 the tape goes on", 1, x.text(0, NONE));
        C.due("26 the tape goes on", 9, x.county(1, 10));
        C.due("26 again 2", true, x.again(2));
        C.due("26 fault", 2, x.fault(0));
        C.due("26 place", 7, x.fault(1));
        C.due("26 county", 2, x.county(0, 0));
        C.due("26 terms", 2, x.count(1));
        C.due("26 counties", 1, x.count(0));
        C.due("26 wants", 0, x.want(0, NONE, 0));
        C.due("26 the tape", NONE, x.end(1));
        C.due("26 an image stays", true, x.again(0));
        C.due("26 as it was", 1, x.county(0, 0));
        C.due("25 image 2 anew", true, x.image(2));
        Checks.tell(x, 0, 0, "");
        C.due("26 again 2", true, x.again(2));
        C.due("26 anew", 1, x.county(0, 0));
        C.due("26 again 3", false, x.again(3));
        C.due("26 again -1", false, x.again(-1));
    }
}
