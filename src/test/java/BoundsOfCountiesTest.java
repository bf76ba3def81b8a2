/** Terms 2 to 5 with promises 10 to 12, 14 to 16, 18 and 20 to 22: the bounds of what follows from a COUNTY as told. */
public final class BoundsOfCountiesTest {
    private static final int NONE = SwornCounty.NONE;
    private static final Checks C = new Checks();
    private static final String SIX = Checks.times("folk 5 1;", 6);
    private static final String TWO = "folk 9 4;folk 9 4;";

    public static void main(String[] args) {
        openByHeart();
        openByLiking();
        openByAny();
        keptByRoom();
        keptWithoutClash();
        keepsOfNone();
        visitsOfOne();
        visitsByNone();
        balanceOfOne();
        heartenOfOne();
        heartOfTwo();
        fallOfSome();
        strikesOfSome();
        ringOfSome();
        fallOfNone();
        swearersOfEmpty();
        swearersAtMost();
        swearersFirstRow();
        swearersOfNone();
        dareByTurns();
        dareFirst();
        dareOfNone();
        chanceAtBounds();
        chanceOfNone();
        fitsAll();
        fitsSome();
        fitsNothing();
        fitsAsk();
        fitsOfNone();
        loneAndSilent();
        busyLadenMutual();
        lovedOfSome();
        peaceOfThings();
        hardestOfThings();
        safeOaths();
        spoilers();
        moreOaths();
        weakest();
        loneOfNone();
        chainOfSome();
        stepsOfSome();
        nothingIsLeft();
        C.close("BoundsOfCountiesTest");
    }

    private static void keepsIs(String sentence, int due, String county, int who, int what) {
        C.due(sentence + " [" + county + "]", due, Checks.with(county).keeps(0, who, what));
    }

    private static void fallIs(String sentence, int due, String county, int what) {
        C.due(sentence + " [" + county + "]", due, Checks.with(county).fall(0, what));
    }

    private static void loneIs(String sentence, int due, String county, int what) {
        C.due(sentence + " [" + county + "]", due, Checks.with(county).lone(0, what));
    }

    private static String oaths(int who, int whom, int things) {
        StringBuilder sb = new StringBuilder();
        for (int t = 0; t < things; t++) sb.append("oath ").append(who).append(' ').append(whom).append(' ').append(t).append(';');
        return sb.toString();
    }

    // ---- Promise 10: THINGS sworn, OPEN, KEPT

    /** "if HEART of any who SWORE it is as much as it is HARD or more". */
    private static void openByHeart() {
        for (int will = 0; will <= 9; will++) {
            for (int hard = 0; hard <= 9; hard++) {
                String county = "folk " + will + " 1;folk 0 0;hard 7 " + hard + ";oath 1 0 7;";
                keepsIs("10 sworn", 128, county, 0, 0);
                keepsIs("10 OPEN by HEART", will >= hard ? 128 : 0, county, 0, 1);
                keepsIs("10 KEPT by HEART", will >= hard ? 128 : 0, county, 0, 2);
                keepsIs("10 OPEN by a liking", will + 2 >= hard ? 128 : 0, county + "likes 0 1;", 0, 1);
                keepsIs("10 not by a liking back", will >= hard ? 128 : 0, county + "likes 1 0;", 0, 1);
            }
            String first = "folk " + will + " 1;folk 0 0;oath 1 0 3;";
            keepsIs("10 5 HARD at first", will >= 5 ? 8 : 0, first, 0, 1);
        }
    }

    private static void openByLiking() {
        String county = "folk 3 1;folk 0 0;folk 0 0;oath 1 0 0;";
        keepsIs("10 not liked", 0, county, 0, 1);
        keepsIs("10 liked", 1, county + "likes 0 1;", 0, 1);
        keepsIs("10 twice is no more", 0, county + "hard 0 6;likes 0 1;likes 0 1;", 0, 1);
        keepsIs("10 another one is liked", 0, county + "likes 0 2;", 0, 1);
        keepsIs("10 liked by another one", 0, county + "likes 2 1;", 0, 1);
    }

    private static void openByAny() {
        String county = "folk 3 2;folk 0 0;folk 0 0;likes 0 2;";
        keepsIs("10 not by the one", 0, county + "oath 1 0 0;", 0, 1);
        keepsIs("10 by the other", 1, county + "oath 2 0 0;", 0, 1);
        keepsIs("10 by the last of both", 1, county + "oath 1 0 0;oath 2 0 0;", 0, 1);
        keepsIs("10 by the first of both", 1, county + "oath 2 0 0;oath 1 0 0;", 0, 1);
        keepsIs("10 not what another one SWORE", 1, county + "oath 2 0 0;oath 1 0 1;", 0, 1);
        keepsIs("10 sworn, both", 3, county + "oath 2 0 0;oath 1 0 1;", 0, 0);
        keepsIs("10 not for who SWORE", 0, county + "oath 2 0 0;oath 1 0 1;", 2, 0);
        keepsIs("10 nothing sworn", 0, county, 0, 0);
        keepsIs("10 nothing OPEN", 0, county, 0, 1);
        keepsIs("10 nothing KEPT", 0, county, 0, 2);
    }

    /** "as many as ROOM at most", of several sets the least number. */
    private static void keptByRoom() {
        for (int room = 0; room <= 4; room++) {
            for (int open = 0; open <= 8; open++) {
                String county = "folk 9 " + room + ";folk 0 0;" + oaths(1, 0, open);
                keepsIs("10 OPEN", (1 << open) - 1, county, 0, 1);
                keepsIs("10 as many as ROOM at most", (1 << Math.min(room, open)) - 1, county, 0, 2);
            }
            String high = "folk 9 " + room + ";folk 0 0;oath 1 0 7;oath 1 0 6;oath 1 0 5;oath 1 0 4;oath 1 0 3;";
            keepsIs("10 of several the least number", ((1 << room) - 1) << 3, high, 0, 2);
        }
    }

    private static void keptWithoutClash() {
        String three = "folk 9 4;folk 0 0;" + oaths(1, 0, 3);
        keepsIs("10 no CLASH", 7, three, 0, 2);
        keepsIs("10 5 before 6", 5, three + "clash 0 1;", 0, 2);
        keepsIs("10 3 before 6", 3, three + "clash 0 2;", 0, 2);
        keepsIs("10 3 before 5", 3, three + "clash 1 2;", 0, 2);
        keepsIs("10 as many as can be", 6, three + "clash 0 1;clash 0 2;", 0, 2);
        keepsIs("10 the least of one", 1, three + "clash 0 1;clash 0 2;clash 1 2;", 0, 2);
        keepsIs("10 room for one", 1, "folk 9 1;folk 0 0;" + oaths(1, 0, 3) + "clash 0 1;clash 0 2;", 0, 2);
        keepsIs("10 room for two", 6, "folk 9 2;folk 0 0;" + oaths(1, 0, 3) + "clash 0 1;clash 0 2;", 0, 2);
        keepsIs("10 a CLASH with what is not OPEN", 7, three + "clash 0 7;clash 1 7;", 0, 2);
        keepsIs("10 the highest two", 192, "folk 9 4;folk 0 0;oath 1 0 7;oath 1 0 6;", 0, 2);
        keepsIs("10 that CLASH", 64, "folk 9 4;folk 0 0;oath 1 0 7;oath 1 0 6;clash 6 7;", 0, 2);
        keepsIs("10 the first and the last CLASH", 1, "folk 9 4;folk 0 0;oath 1 0 7;oath 1 0 0;clash 7 0;", 0, 2);
    }

    private static void keepsOfNone() {
        SwornCounty what = Checks.with(TWO + "oath 0 1 0;");
        C.outside(0, 5, "10 for another what", -99, w -> what.keeps(0, 1, w));
        for (int folk = 0; folk <= 6; folk++) {
            SwornCounty x = Checks.with(Checks.times("folk 5 1;", folk));
            for (int p = 0; p < folk; p++) for (int w = 0; w <= 5; w++) C.due("10 one of " + folk, 0, x.keeps(0, p, w));
            C.outside(0, folk - 1, "10 there is none such of " + folk, -99, p -> x.keeps(0, p, 0));
            for (int w = 0; w <= 5; w++) C.due("10 there is none such", -99, x.keeps(0, folk, w));
        }
        for (int many = 0; many <= 2; many++) {
            SwornCounty x = new SwornCounty();
            for (int i = 0; i < many; i++) Checks.tell(x, 0, NONE, SIX);
            for (int i = 0; i < many; i++) C.due("10 a COUNTY", 0, x.keeps(i, 5, 0));
            C.outside(0, many - 1, "10 no such COUNTY", -99, c -> x.keeps(c, 0, 0));
        }
    }

    // ---- Promise 10: VISITS, BALANCE, HEARTEN

    private static void visitsOfOne() {
        for (int will = 0; will <= 9; will++) {
            for (int hard = 0; hard <= 9; hard++) {
                String county = "folk " + will + " 1;folk 0 0;folk 0 0;hard 0 " + hard + ";oath 1 0 0;";
                keepsIs("10 VISITS", Math.max(0, hard - will), county, 0, 3);
                keepsIs("10 VISITS of a liked one", Math.max(0, hard - will - 2), county + "likes 0 1;", 0, 3);
                keepsIs("10 of several who SWORE the better", Math.max(0, hard - will - 2), county + "oath 2 0 0;likes 0 2;", 0, 3);
            }
        }
        String four = "folk 0 4;folk 0 0;folk 0 0;folk 0 0;folk 0 0;hard 0 9;hard 1 9;hard 2 9;hard 3 9;";
        keepsIs("10 nine of each", 36, four + "oath 1 0 0;oath 2 0 1;oath 3 0 2;oath 4 0 3;", 0, 3);
        keepsIs("10 nine of three", 27, four + "oath 1 0 0;oath 2 0 1;oath 3 0 2;oath 1 0 3;", 0, 3);
        String twelve = Checks.times("oath 1 0 0;", 12);
        keepsIs("10 twelve OATHS", 5, "folk 0 1;folk 0 0;" + twelve, 0, 3);
        keepsIs("10 twelve OATHS", 5, "folk 0 1;folk 0 0;" + twelve, 0, 5);
        keepsIs("10 twelve OATHS", 0, "folk 0 1;folk 0 0;" + twelve, 1, 3);
        keepsIs("10 nine of one", 9, four + "oath 1 0 0;oath 1 0 1;oath 1 0 2;oath 1 0 3;oath 2 0 1;", 0, 3);
        // 2 would open 0 by three VISITS, but 1 must come five times for 1, and opens 0 by these.
        String one = "folk 0 2;folk 0 0;folk 0 0;likes 0 2;oath 1 0 0;oath 2 0 0;oath 1 0 1;";
        keepsIs("10 one for both", 5, one, 0, 3);
        keepsIs("10 nothing was sworn", 0, four, 0, 3);
        keepsIs("10 only for another one", 0, four + "oath 0 1 0;", 0, 3);
    }

    /** NONE where no VISITS help: what is sworn is more than ROOM, or CLASHES. */
    private static void visitsByNone() {
        for (int room = 0; room <= 4; room++) {
            for (int sworn = 0; sworn <= 5; sworn++) {
                String county = "folk 9 " + room + ";folk 0 0;" + oaths(1, 0, sworn);
                keepsIs("10 VISITS, room " + room, sworn <= room ? 0 : NONE, county, 0, 3);
                keepsIs("10 HEARTEN, room " + room, sworn <= room ? 0 : NONE, county, 0, 5);
                String weak = "folk 0 " + room + ";folk 0 0;" + oaths(1, 0, sworn);
                keepsIs("10 VISITS, room " + room, sworn > room ? NONE : sworn == 0 ? 0 : 5, weak, 0, 3);
                keepsIs("10 HEARTEN, room " + room, sworn > room ? NONE : sworn == 0 ? 0 : 5, weak, 0, 5);
            }
        }
        String two = "folk 0 4;folk 0 0;" + oaths(1, 0, 2);
        keepsIs("10 VISITS, a CLASH", NONE, two + "clash 1 0;", 0, 3);
        keepsIs("10 HEARTEN, a CLASH", NONE, two + "clash 1 0;", 0, 5);
        keepsIs("10 VISITS, no CLASH of these", 5, two + "clash 1 2;clash 0 3;", 0, 3);
        keepsIs("10 HEARTEN, no CLASH of these", 5, two + "clash 1 2;clash 0 3;", 0, 5);
    }

    private static void balanceOfOne() {
        keepsIs("10 nothing", 0, "folk 9 4;", 0, 4);
        keepsIs("10 four KEPT", 4, "folk 9 4;folk 0 0;" + oaths(1, 0, 4), 0, 4);
        keepsIs("10 four of eight KEPT", 4, "folk 9 4;folk 0 0;" + oaths(1, 0, 8), 0, 4);
        keepsIs("10 four BROKEN", -4, "folk 9 4;folk 0 0;" + oaths(1, 0, 8), 1, 4);
        keepsIs("10 none BROKEN", 0, "folk 9 4;folk 0 0;" + oaths(1, 0, 4), 1, 4);
        keepsIs("10 twelve BROKEN", -12, "folk 9 0;folk 0 0;" + Checks.times("oath 1 0 0;", 12), 1, 4);
        keepsIs("10 THINGS, not OATHS", 1, "folk 9 4;folk 0 0;" + Checks.times("oath 1 0 0;", 12), 0, 4);
        keepsIs("10 both", -3, "folk 9 1;folk 9 0;" + oaths(0, 1, 4) + oaths(1, 0, 1), 0, 4);
        keepsIs("10 not another one's", 0, "folk 9 0;folk 9 0;folk 9 0;oath 1 0 0;", 2, 4);
    }

    private static void heartenOfOne() {
        for (int will = 0; will <= 9; will++) {
            for (int hard = 0; hard <= 9; hard++) {
                String county = "folk " + will + " 1;folk 0 0;hard 0 " + hard + ";oath 1 0 0;";
                keepsIs("10 HEARTEN", Math.max(0, hard - will), county, 0, 5);
                keepsIs("10 HEARTEN, liked", Math.max(0, hard - will - 2), county + "likes 0 1;", 0, 5);
            }
        }
        keepsIs("10 the hardest of all", 9, "folk 0 4;folk 0 0;hard 1 9;hard 2 0;" + oaths(1, 0, 4), 0, 5);
        keepsIs("10 nothing was sworn", 0, "folk 0 0;folk 0 0;oath 0 1 0;", 0, 5);
        // It is asked only: WILL is as told then.
        SwornCounty x = Checks.with("folk 0 1;folk 0 0;oath 1 0 0;");
        C.due("10 HEARTEN", 5, x.keeps(0, 0, 5));
        C.due("10 as told", 0, x.county(0, 10));
        C.due("10 as told", 0, x.heart(0, 1, 0));
        C.due("10 as told", 0, x.keeps(0, 0, 2));
    }

    // ---- Promise 11

    private static void heartOfTwo() {
        for (int will = 0; will <= 9; will++) {
            String county = "folk " + will + " 0;folk 0 0;";
            C.due("11 WILL of who is BOUND", will, Checks.with(county).heart(0, 1, 0));
            C.due("11 and 2", will + 2, Checks.with(county + "likes 0 1;").heart(0, 1, 0));
            C.due("11 this LIKES that one", will, Checks.with(county + "likes 1 0;").heart(0, 1, 0));
            C.due("11 without an OATH or with", will, Checks.with(county + "oath 1 0 0;").heart(0, 1, 0));
        }
        for (int folk = 0; folk <= 6; folk++) {
            SwornCounty x = Checks.with(Checks.times("folk 5 1;", folk));
            for (int a = -2; a <= 7; a++) {
                for (int b = -2; b <= 7; b++) {
                    boolean two = a != b && a >= 0 && b >= 0 && a < folk && b < folk;
                    C.due("11 heart " + a + " " + b + " of " + folk, two ? 5 : NONE, x.heart(0, a, b));
                }
            }
            for (int far : Checks.FAR) {
                C.due("11 none such", NONE, x.heart(0, far, 0));
                C.due("11 none such", NONE, x.heart(0, 0, far));
                C.due("11 none such", NONE, x.heart(0, far, far));
            }
        }
        for (int many = 0; many <= 2; many++) {
            SwornCounty x = new SwornCounty();
            for (int i = 0; i < many; i++) Checks.tell(x, 0, NONE, SIX);
            for (int i = 0; i < many; i++) C.due("11 a COUNTY", 5, x.heart(i, 4, 5));
            C.outside(0, many - 1, "11 no such COUNTY", NONE, c -> x.heart(c, 0, 1));
        }
    }

    // ---- Promise 12

    private static void fallOfSome() {
        fallIs("12 nobody there", 0, "", 0);
        fallIs("12 no OATHS", 0, SIX, 0);
        StringBuilder ring = new StringBuilder();
        for (int p = 0; p < 6; p++) ring.append("oath ").append(p).append(' ').append((p + 1) % 6).append(" 0;");
        fallIs("12 nobody would be", 0, SIX + ring, 0);
        fallIs("12 all would be", 63, SIX + "hard 0 6;" + ring, 0);
        fallIs("12 all would be, by liking not the first", 62, SIX + "hard 0 6;likes 1 0;" + ring, 0);
        fallIs("12 the last one", 32, SIX + "oath 5 0 0;oath 5 0 1;", 0);
        fallIs("12 both who SWORE it", 6, "folk 0 1;folk 0 0;folk 0 0;oath 1 0 0;oath 2 0 0;", 0);
        fallIs("12 neither who SWORE it", 0, "folk 3 1;folk 0 0;folk 0 0;likes 0 2;oath 1 0 0;oath 2 0 0;", 0);
    }

    private static void strikesAre(String sentence, int many, int which, String county) {
        fallIs(sentence + " how many", many, county, 1);
        fallIs(sentence + " which", which, county, 2);
    }

    private static void strikesOfSome() {
        strikesAre("12 nobody there", 0, 0, "");
        strikesAre("12 no OATHS", 0, 0, SIX);
        strikesAre("12 none is BROKEN", 0, 0, TWO + oaths(1, 0, 4) + oaths(0, 1, 4));
        strikesAre("12 one of five", 1, 1, TWO + oaths(1, 0, 5));
        strikesAre("12 four of eight", 4, 15, TWO + oaths(1, 0, 8));
        strikesAre("12 all twelve", 12, 4095, "folk 9 0;folk 0 0;" + Checks.times("oath 1 0 0;", 12));
        strikesAre("12 none of twelve", 0, 0, "folk 9 1;folk 0 0;" + Checks.times("oath 1 0 0;", 12));
        strikesAre("12 the twelfth", 1, 2048, "folk 9 1;folk 0 0;" + Checks.times("oath 1 0 0;", 11) + "oath 1 0 1;");
        strikesAre("12 the first of two that CLASH", 1, 1, TWO + "clash 0 7;oath 1 0 7;oath 1 0 0;");
        strikesAre("12 the first of two that CLASH", 1, 1, TWO + "clash 0 7;oath 1 0 0;oath 1 0 7;");
        strikesAre("12 two and two: the least", 2, 5, TWO + "clash 0 7;oath 1 0 0;oath 1 0 7;oath 1 0 0;oath 1 0 7;");
        strikesAre("12 one before two", 1, 4, TWO + "clash 0 7;oath 1 0 0;oath 1 0 0;oath 1 0 7;");
        strikesAre("12 what is not OPEN", 1, 2, "folk 5 4;folk 0 0;hard 1 6;" + oaths(1, 0, 3));
        strikesAre("12 of each one", 2, 5, "folk 9 1;folk 9 1;oath 1 0 3;oath 1 0 4;oath 0 1 3;oath 0 1 4;");
    }

    private static void ringsAre(String sentence, int least, int ringed, String oaths) {
        fallIs(sentence, least, SIX + oaths, 3);
        fallIs(sentence + " RINGED", ringed, SIX + oaths, 4);
    }

    private static void ringOfSome() {
        fallIs("12 nobody there", NONE, "", 3);
        fallIs("12 nobody there", 0, "", 4);
        fallIs("12 one alone", NONE, "folk 1 1;", 3);
        ringsAre("12 no OATHS", NONE, 0, "");
        StringBuilder row = new StringBuilder();
        for (int p = 0; p < 5; p++) {
            row.append("oath ").append(p).append(' ').append(p + 1).append(" 0;");
            ringsAre("12 a row is no ring", NONE, 0, row.toString());
            ringsAre("12 a ring of " + (p + 2), p + 2, (1 << p + 2) - 1, row + "oath " + (p + 1) + " 0 0;");
        }
        ringsAre("12 twice the same is no ring", NONE, 0, "oath 0 1 0;oath 0 1 0;oath 0 1 1;");
        ringsAre("12 two rows that meet", NONE, 0, "oath 0 1 0;oath 0 2 0;oath 1 3 0;oath 2 3 0;");
        ringsAre("12 two rings: the least", 2, 62, "oath 1 2 0;oath 2 3 0;oath 3 1 0;oath 4 5 0;oath 5 4 0;");
        ringsAre("12 two rings that meet", 2, 31, "oath 0 1 0;oath 1 0 0;oath 1 2 0;oath 2 3 0;oath 3 4 0;oath 4 1 0;");
        ringsAre("12 to a ring and from it is not in it", 2, 6, "oath 0 1 0;oath 1 2 0;oath 2 1 0;oath 2 3 0;");
        ringsAre("12 the last two", 2, 48, "oath 4 5 7;oath 5 4 0;");
    }

    private static void fallOfNone() {
        SwornCounty what = Checks.with(SIX);
        C.outside(0, 4, "12 for another what", -2, w -> what.fall(0, w));
        for (int many = 0; many <= 2; many++) {
            for (int w = 0; w <= 4; w++) {
                int of = w;
                SwornCounty x = new SwornCounty();
                for (int i = 0; i < many; i++) Checks.tell(x, 0, NONE, SIX);
                for (int i = 0; i < many; i++) C.due("12 a COUNTY", w == 3 ? NONE : 0, x.fall(i, w));
                C.outside(0, many - 1, "12 no such COUNTY", -2, c -> x.fall(c, of));
            }
        }
    }

    // ---- Promise 14

    private static void rowIs(String sentence, String county, String wants, int most, int... row) {
        SwornCounty x = Checks.with(county, null, wants, null);
        String call = "14 " + sentence + " [" + wants + "]";
        C.due(call, most, x.swearers(0, 0, NONE));
        for (int k = 0; k < row.length; k++) C.due(call + " the k-th " + k, row[k], x.swearers(0, 0, k));
        C.outside(NONE, row.length - 1, call + " not so many", NONE, k -> x.swearers(0, 0, k));
    }

    private static void swearersOfEmpty() {
        rowIs("no WANTS", SIX, "", 0);
        rowIs("no WANTS of nobody", "", "", 0);
        rowIs("one alone", "folk 9 4;", "want 0 0;", 0, 6);
        rowIs("one alone", "folk 9 4;", Checks.times("want 0 0;", 6), 0, 6, 6, 6, 6, 6, 6);
        rowIs("nothing is KEPT", "folk 0 4;folk 0 4;", "want 0 0;want 1 0;", 0, 1, 0);
        rowIs("no room", "folk 9 0;folk 9 0;", "want 0 0;want 1 0;", 0, 1, 0);
    }

    private static void swearersAtMost() {
        // Each swears one at most: with so many of the FOLK so many but one.
        for (int folk = 1; folk <= 6; folk++) {
            String county = "folk 9 4;" + Checks.times("folk 0 0;", folk - 1);
            int[] row = new int[6];
            for (int k = 0; k < 6; k++) row[k] = k + 1 < folk ? k + 1 : 6;
            rowIs("one at most, " + folk, county, "want 0 0;want 0 1;want 0 2;want 0 3;want 0 4;want 0 5;", Math.min(4, folk - 1), row);
        }
        rowIs("the same WANT, one swears it", TWO, "want 0 3;want 0 3;want 0 3;", 3, 1, 6, 6);
        rowIs("six of six", SIX, "want 0 0;want 1 0;want 2 0;want 3 0;want 4 0;want 5 0;", 6, 1, 0, 3, 2, 5, 4);
        rowIs("the last one swears", "folk 3 1;folk 3 1;folk 3 1;likes 0 2;", "want 0 0;", 1, 2);
        rowIs("OATHS as told are none", "folk 9 1;folk 9 1;oath 1 0 0;", "want 0 7;", 1, 1);
        rowIs("HEART just enough", "folk 5 1;folk 0 0;", "want 0 0;", 1, 1);
        rowIs("HEART one less", "folk 4 1;folk 0 0;", "want 0 0;", 0, 1);
        rowIs("by a liking", "folk 3 1;folk 0 0;likes 0 1;", "want 0 0;", 1, 1);
    }

    private static void swearersFirstRow() {
        rowIs("the first by numbers", SIX, "want 5 0;", 1, 0);
        rowIs("unlike the one BOUND", SIX, "want 0 0;", 1, 1);
        rowIs("not the first, if more is KEPT", "folk 5 1;folk 5 1;folk 3 1;likes 2 0;", "want 1 0;want 2 0;", 2, 2, 0);
        rowIs("not the second, if more is KEPT", "folk 9 1;folk 0 0;folk 0 0;folk 3 1;likes 3 1;", "want 0 0;want 3 0;", 2, 2, 1);
        rowIs("six of six, the first one for the last", Checks.times("folk 5 1;", 5) + "folk 3 1;likes 5 0;",
            "want 0 0;want 1 0;want 2 0;want 3 0;want 4 0;want 5 0;", 6, 1, 2, 3, 4, 5, 0);
        rowIs("nobody, if it spoils", "folk 9 1;folk 9 1;folk 9 1;", "want 0 0;want 0 7;want 0 7;", 2, 6, 1, 2);
        rowIs("somebody before nobody", "folk 9 1;folk 9 1;folk 9 1;", "want 0 7;want 0 0;", 1, 1, 2);
        rowIs("of two that CLASH one", TWO + "folk 9 4;clash 0 1;", "want 0 0;want 0 1;", 1, 1, 2);
    }

    private static void swearersOfNone() {
        for (int folk = 0; folk <= 6; folk++) {
            for (int who = 0; who < 6; who++) {
                SwornCounty x = Checks.with(Checks.times("folk 5 1;", folk), null, "want " + who + " 0;", null);
                boolean there = who < folk;
                C.due("14 wanted of " + who + " of " + folk, there ? folk > 1 ? 1 : 0 : NONE, x.swearers(0, 0, NONE));
                C.due("14 wanted of " + who + " of " + folk, there ? folk == 1 ? 6 : who == 0 ? 1 : 0 : NONE, x.swearers(0, 0, 0));
            }
        }
        SwornCounty last = Checks.with(TWO, null, "want 0 0;want 1 0;want 2 0;", null);
        for (int k = NONE; k <= 3; k++) C.due("14 the last is wanted of nobody", NONE, last.swearers(0, 0, k));
        for (int counties = 0; counties <= 2; counties++) {
            for (int wants = 0; wants <= 2; wants++) {
                SwornCounty x = new SwornCounty();
                for (int i = 0; i < counties; i++) Checks.tell(x, 0, NONE, TWO);
                for (int i = 0; i < wants; i++) Checks.tell(x, 2, NONE, "want 0 0;");
                for (int c = -2; c <= 3; c++) {
                    for (int w = -2; w <= 3; w++) {
                        boolean both = c >= 0 && c < counties && w >= 0 && w < wants;
                        for (int k = NONE; k <= 0; k++) C.due("14 swearers " + c + " " + w, both ? 1 : NONE, x.swearers(c, w, k));
                    }
                }
                for (int far : Checks.FAR) {
                    C.due("14 no such COUNTY", NONE, x.swearers(far, 0, NONE));
                    C.due("14 no such WANTS", NONE, x.swearers(0, far, NONE));
                }
            }
        }
    }

    // ---- Promise 15

    private static void daresAre(String sentence, String county, int a, int b, int... due) {
        SwornCounty x = Checks.with(county);
        for (int n = 0; n < due.length; n++) C.due("15 " + sentence + " n " + n, due[n], x.dare(0, a, b, n, false));
    }

    private static void dareByTurns() {
        daresAre("two alike", TWO, 0, 1, 0, 1, 0, 1);
        daresAre("no room", "folk 9 0;folk 9 0;", 0, 1, 0, 0, 0, 0);
        daresAre("too HARD", "folk 4 4;folk 4 4;", 0, 1, 0, 0, 0, 0);
        daresAre("just not too HARD", "folk 5 4;folk 5 4;", 0, 1, 0, 1, 0, 1);
        daresAre("room for one", "folk 9 1;folk 9 1;", 0, 1, 0, 1, 0, 0);
        daresAre("the second has room alone", "folk 9 0;folk 9 4;", 0, 1, 0, 1, 1, 2);
        daresAre("the first has room alone", "folk 9 4;folk 9 0;", 0, 1, 0, 0, -1, -1);
        daresAre("all CLASH for one", "folk 9 0;folk 9 4;clash 0 1;clash 0 2;clash 1 2;hard 3 9;", 0, 1, 0, 1, 1, 2);
        String four = "folk 9 4;folk 9 4;" + oaths(0, 1, 4);
        daresAre("OATHS as told", four, 0, 1, 4, 4, 3, 3);
        daresAre("OATHS as told", four, 1, 0, -4, -3, -3, -2);
        daresAre("though 12 there were", TWO + Checks.times("oath 0 1 0;", 12), 0, 1, 1, 2, 1, 2);
        daresAre("by a liking", "folk 3 4;folk 3 4;likes 1 0;", 0, 1, 0, 1, 1, 2);
        daresAre("the last two of six", SIX, 4, 5, 0, 1, 0, 0);
        daresAre("their own room", "folk 9 4;folk 9 0;folk 9 4;folk 9 1;", 1, 3, 0, 1, 1, 1);
        daresAre("their own room", "folk 9 0;folk 9 1;folk 9 0;folk 9 4;", 3, 1, 0, 1, 0, 0);
        for (int t = 0; t < 8; t++) daresAre("one THING for each", "folk 3 4;folk 3 4;hard " + t + " 3;", 1, 0, 0, 1, 0, 0);
    }

    private static void firstIs(String sentence, int due, String county, int a, int b, int n) {
        C.due("15 " + sentence, due, Checks.with(county).dare(0, a, b, n, true));
    }

    private static void dareFirst() {
        for (int n = 1; n <= 3; n++) firstIs("the least that is best", 0, TWO, 0, 1, n);
        firstIs("NONE: n is 0", NONE, TWO, 0, 1, 0);
        firstIs("nothing gains: the least", 0, "folk 0 0;folk 0 0;", 0, 1, 1);
        for (int t = 0; t < 8; t++) {
            firstIs("the only one that is not too HARD", t, "folk 3 1;folk 3 1;hard " + t + " 3;", 0, 1, 1);
            firstIs("by two turns, too", t, "folk 3 1;folk 3 1;hard " + t + " 3;", 1, 0, 2);
        }
        firstIs("sworn already: the next", 1, TWO + "oath 0 1 0;", 0, 1, 1);
        firstIs("sworn already: the last", 7, "folk 9 4;folk 5 4;" + oaths(0, 1, 3) + "hard 3 9;hard 4 9;hard 5 9;hard 6 9;", 0, 1, 1);
        firstIs("it CLASHES: the next", 2, TWO + "oath 0 1 0;clash 0 1;", 0, 1, 1);
    }

    private static void dareOfNone() {
        for (int first = 0; first < 2; first++) {
            boolean f = first == 1;
            SwornCounty x = Checks.with(TWO);
            C.outside(0, 3, "15 another n", -9, n -> x.dare(0, 0, 1, n, f));
            for (int folk = 0; folk <= 6; folk++) {
                SwornCounty y = Checks.with(Checks.times("folk 0 0;", folk));
                for (int a = -2; a <= 7; a++) {
                    for (int b = -2; b <= 7; b++) {
                        boolean two = a != b && a >= 0 && b >= 0 && a < folk && b < folk;
                        C.due("15 dare " + a + " " + b + " of " + folk, two ? 0 : -9, y.dare(0, a, b, 1, f));
                    }
                }
                for (int far : Checks.FAR) {
                    C.due("15 none such", -9, y.dare(0, far, 0, 0, f));
                    C.due("15 none such", -9, y.dare(0, 0, far, 0, f));
                }
            }
            for (int many = 0; many <= 2; many++) {
                SwornCounty y = new SwornCounty();
                for (int i = 0; i < many; i++) Checks.tell(y, 0, NONE, "folk 0 0;folk 0 0;");
                for (int i = 0; i < many; i++) C.due("15 a COUNTY", 0, y.dare(i, 0, 1, 3, f));
                C.outside(0, many - 1, "15 no such COUNTY", -9, c -> y.dare(c, 0, 1, 0, f));
            }
        }
    }

    // ---- Promise 16

    private static void chanceIs(String sentence, SwornCounty x, int thing, int p, int n, int over, int under) {
        String call = "16 " + sentence + " p " + p + " n " + n;
        C.due(call + " N", over, x.chance(0, 1, 0, thing, p, n, false));
        C.due(call + " D", under, x.chance(0, 1, 0, thing, p, n, true));
    }

    private static void chanceAtBounds() {
        // THING 0 needs no VISIT that takes, 1 needs one, .. 6 needs six; 7 needs one less than none.
        String county = "folk 3 0;folk 0 0;hard 0 3;hard 1 4;hard 2 5;hard 3 6;hard 4 7;hard 5 8;hard 6 9;hard 7 2;";
        for (int n = 0; n <= 6; n++) {
            SwornCounty x = Checks.with(county);
            for (int p = 0; p <= 10; p++) {
                chanceIs("it is as much", x, 0, p, n, 1, 1);
                chanceIs("it is more", x, 7, p, n, 1, 1);
            }
            for (int thing = 1; thing <= 6; thing++) {
                chanceIs("none takes by 0 of ten", x, thing, 0, n, 0, 1);
                chanceIs("each takes by ten of ten", x, thing, 10, n, thing <= n ? 1 : 0, 1);
                if (thing > n) chanceIs("too few", x, thing, 5, n, 0, 1);
            }
        }
        SwornCounty x = Checks.with(county);
        chanceIs("one of one", x, 1, 1, 1, 1, 10);
        chanceIs("one of one", x, 1, 9, 1, 9, 10);
        chanceIs("least terms", x, 1, 2, 1, 1, 5);
        chanceIs("least terms", x, 1, 5, 1, 1, 2);
        chanceIs("two of two", x, 2, 5, 2, 1, 4);
        chanceIs("one of two", x, 1, 1, 2, 19, 100);
        chanceIs("six of six", x, 6, 1, 6, 1, 1000000);
        chanceIs("six of six", x, 6, 9, 6, 531441, 1000000);
        chanceIs("six of six", x, 6, 5, 6, 1, 64);
        chanceIs("one of six", x, 1, 9, 6, 999999, 1000000);
        chanceIs("five of six", x, 5, 5, 6, 7, 64);
        SwornCounty liked = Checks.with("folk 3 0;folk 0 0;likes 0 1;hard 0 5;hard 1 6;");
        chanceIs("liked", liked, 0, 0, 0, 1, 1);
        chanceIs("liked, one less", liked, 1, 3, 1, 3, 10);
    }

    private static void chanceOfNone() {
        for (int u = 0; u < 2; u++) {
            boolean under = u == 1;
            SwornCounty p = Checks.with(SIX);
            C.outside(0, 10, "16 another p", NONE, n -> p.chance(0, 0, 1, 0, n, 1, under));
            SwornCounty n = Checks.with(SIX);
            C.outside(0, 6, "16 another n", NONE, many -> n.chance(0, 0, 1, 0, 5, many, under));
            SwornCounty t = Checks.with(SIX);
            for (int thing = 0; thing <= 7; thing++) C.due("16 a THING", 1, t.chance(0, 0, 1, thing, 5, 1, under));
            C.outside(0, 7, "16 no THING", NONE, thing -> t.chance(0, 0, 1, thing, 5, 1, under));
            for (int folk = 0; folk <= 6; folk++) {
                SwornCounty y = Checks.with(Checks.times("folk 5 0;", folk));
                for (int a = -2; a <= 7; a++) {
                    for (int b = -2; b <= 7; b++) {
                        boolean two = a != b && a >= 0 && b >= 0 && a < folk && b < folk;
                        C.due("16 chance " + a + " " + b + " of " + folk, two ? 1 : NONE, y.chance(0, a, b, 0, 0, 0, under));
                    }
                }
                for (int far : Checks.FAR) {
                    C.due("16 none such", NONE, y.chance(0, far, 0, 0, 0, 0, under));
                    C.due("16 none such", NONE, y.chance(0, 0, far, 0, 0, 0, under));
                }
            }
            for (int many = 0; many <= 2; many++) {
                SwornCounty y = new SwornCounty();
                for (int i = 0; i < many; i++) Checks.tell(y, 0, NONE, SIX);
                for (int i = 0; i < many; i++) C.due("16 a COUNTY", 1, y.chance(i, 4, 5, 7, 10, 6, under));
                C.outside(0, many - 1, "16 no such COUNTY", NONE, c -> y.chance(c, 0, 1, 0, 0, 0, under));
            }
        }
    }

    // ---- Promise 18

    private static void fitsAre(String sentence, String county, String log, int who, int... due) {
        SwornCounty x = Checks.with(county, null, null, log);
        String call = "18 " + sentence + " [" + log + "]";
        for (int what = 0; what < 6; what++) C.due(call + " what " + what, due[what], x.fits(0, 0, who, what));
        for (int k = 6; k < due.length; k++) C.due(call + " the k-th " + (k - 6), due[k], x.fits(0, 0, who, k + 4));
        int many = due[0];
        C.others(call + " for another what", -2, what -> what >= 0 && what <= 5 || what >= 10 && what < 10 + many, what -> x.fits(0, 0, who, what));
    }

    private static int[] allThatFit(int... due) {
        int[] all = java.util.Arrays.copyOf(due, 56);
        for (int k = 0; k < 50; k++) all[6 + k] = k / 5 * 10 + k % 5;
        return all;
    }

    private static void fitsAll() {
        fitsAre("all fit", "folk 3 2;", "", 0, allThatFit(50, NONE, NONE, 0, 0, 9));
        fitsAre("all fit, whatever is sworn", TWO + "oath 1 0 6;", "", 0, allThatFit(50, NONE, NONE, 6, 0, 9));
        fitsAre("what was not sworn is not KEPT", TWO, "broke 0 0;broke 1 7;", 0, allThatFit(50, NONE, NONE, 0, 0, 9));
        fitsAre("FACTS of another one that are so", "folk 0 0;folk 5 1;oath 0 1 0;", "kept 1 0;broke 1 1;", 0, allThatFit(50, NONE, NONE, 0, 0, 9));
        fitsAre("the last of six", SIX, "", 5, allThatFit(50, NONE, NONE, 0, 0, 9));
    }

    private static void fitsSome() {
        String hard = "folk 0 0;folk 0 0;hard 0 9;" + oaths(1, 0, 4);
        fitsAre("one fits, the greatest", hard, "kept 0 0;kept 0 1;kept 0 2;kept 0 3;", 0, 1, 9, 4, 0, 9, 9, 94);
        fitsAre("by no more FACTS, two fit", "folk 0 0;folk 0 0;hard 0 9;" + oaths(1, 0, 3), "kept 0 0;kept 0 1;kept 0 2;", 0,
            2, 9, NONE, 0, 9, 9, 93, 94);
        fitsAre("WILL alone is SURE", "folk 0 0;folk 0 0;hard 0 9;oath 1 0 0;", "kept 0 0;", 0, 4, 9, NONE, 0, 9, 9, 91, 92, 93, 94);
        fitsAre("ROOM alone is SURE", "folk 0 0;folk 0 0;hard 0 0;oath 1 0 0;", "broke 0 0;", 0,
            10, NONE, 0, 0, 0, 9, 0, 10, 20, 30, 40, 50, 60, 70, 80, 90);
        fitsAre("one WILL, one ROOM", "folk 0 0;folk 0 0;hard 0 8;hard 1 9;hard 2 8;" + oaths(1, 0, 3), "kept 0 0;broke 0 1;kept 0 2;", 0,
            3, 8, NONE, 0, 8, 8, 82, 83, 84);
        fitsAre("a liking counts", "folk 0 0;folk 0 0;hard 0 2;likes 0 1;hard 1 9;oath 1 0 0;oath 1 0 1;", "kept 0 0;broke 0 1;kept 0 0;", 0,
            31, NONE, NONE, 0, 0, 9, 1, 2, 3, 4, 11, 12, 13, 14, 21, 22, 23, 24, 31, 32, 33, 34, 41, 42, 43, 44, 51, 52, 53, 54, 61, 62, 63, 64, 71, 81, 91);
    }

    private static void fitsNothing() {
        int[] nothing = {0, NONE, NONE, NONE, NONE, NONE};
        fitsAre("never sworn, but kept", TWO, "kept 0 0;", 0, nothing);
        fitsAre("kept and not", TWO + "oath 1 0 0;", "kept 0 0;broke 0 0;", 0, nothing);
        fitsAre("not so of another one", TWO + "oath 1 0 0;", "kept 1 0;", 0, nothing);
        fitsAre("not so of another one", "folk 9 4;folk 9 4;oath 0 1 0;", "broke 1 0;", 0, nothing);
        // "of who is not there: never", neither that they kept it nor that they did not.
        for (int folk = 1; folk <= 6; folk++) {
            for (int who = folk; who < 6; who++) {
                String county = Checks.times("folk 5 1;", folk);
                fitsAre("kept by who is not there", county, "kept " + who + " 0;", 0, nothing);
                fitsAre("broke by who is not there", county, "broke " + who + " 0;", 0, nothing);
            }
            fitsAre("broke by the last one", Checks.times("folk 5 1;", folk), "broke " + (folk - 1) + " 0;", 0,
                allThatFit(50, NONE, NONE, 0, 0, 9));
        }
        fitsAre("among eight", TWO, Checks.times("broke 0 0;", 7) + "broke 2 0;", 0, nothing);
        fitsAre("without it", TWO, Checks.times("broke 0 0;", 8), 0, allThatFit(50, NONE, NONE, 0, 0, 9));
    }

    private static void askIs(String sentence, int due, String county, String log) {
        C.due("18 " + sentence, due, Checks.with(county, null, null, log).fits(0, 0, 0, 3));
    }

    private static void fitsAsk() {
        String two = "folk 0 0;folk 0 0;";
        askIs("nothing to be learnt: the least", 0, two, "");
        askIs("the last THING", 7, two + "oath 1 0 7;", "");
        askIs("KEPT by all is no better than by none: the least", 0, two + "oath 1 0 3;", "kept 0 3;");
        // Of 50 that FIT 2 is KEPT by 23 (not with WILL of 9 and ROOM of one), 0 by 4: 27 and 46 are the greater numbers.
        askIs("it is more often not KEPT", 2, two + "hard 0 9;hard 2 4;oath 1 0 0;oath 1 0 2;", "");
        // 5 is KEPT by 28, 6 by 18: 28 and 32.
        askIs("it is more often KEPT", 5, two + "hard 5 3;hard 6 4;oath 1 0 5;oath 1 0 6;", "");
        // 20 FIT, with WILL of 5 and more and any ROOM: 1 is KEPT by 15, 2 by 10.
        askIs("just half", 2, two + "oath 1 0 0;oath 1 0 1;oath 1 0 2;", "kept 0 0;");
        // 28 FIT: with WILL below 4 any ROOM, else of three and more; by these 12 both 1 and 6 are KEPT.
        askIs("of several the least", 1, two + "hard 7 0;hard 1 4;hard 6 4;oath 1 0 7;oath 1 0 1;oath 1 0 6;", "kept 0 7;");
    }

    private static void fitsOfNone() {
        for (int what : new int[] {0, 1, 2, 3, 4, 5, 10}) {
            for (int folk = 0; folk <= 6; folk++) {
                SwornCounty x = Checks.with(Checks.times("folk 5 1;", folk), null, null, "");
                C.outside(0, folk - 1, "18 there is none such of " + folk, -2, who -> x.fits(0, 0, who, what));
            }
        }
        for (int counties = 0; counties <= 2; counties++) {
            for (int logs = 0; logs <= 2; logs++) {
                SwornCounty x = new SwornCounty();
                for (int i = 0; i < counties; i++) Checks.tell(x, 0, NONE, TWO);
                for (int i = 0; i < logs; i++) Checks.tell(x, 3, NONE, "broke 0 0;");
                for (int c = -2; c <= 3; c++) {
                    for (int l = -2; l <= 3; l++) {
                        boolean both = c >= 0 && c < counties && l >= 0 && l < logs;
                        C.due("18 fits " + c + " " + l, both ? 50 : -2, x.fits(c, l, 1, 0));
                        C.due("18 fits " + c + " " + l, both ? 94 : -2, x.fits(c, l, 1, 59));
                    }
                }
                for (int far : Checks.FAR) {
                    C.due("18 no such COUNTY", -2, x.fits(far, 0, 0, 0));
                    C.due("18 no such LOG", -2, x.fits(0, far, 0, 0));
                }
            }
        }
    }

    // ---- Promise 20

    private static void loneAndSilent() {
        for (int folk = 0; folk <= 6; folk++) {
            String county = Checks.times("folk 5 1;", folk);
            loneIs("20 LONE, all of " + folk, (1 << folk) - 1, county, 0);
            loneIs("20 SILENT, all of " + folk, (1 << folk) - 1, county, 1);
            if (folk < 2) continue;
            String oath = "oath " + (folk - 1) + " 0 0;";
            loneIs("20 LONE, not the first", (1 << folk) - 2, county + oath, 0);
            loneIs("20 SILENT, not the last", (1 << folk - 1) - 1, county + oath, 1);
            StringBuilder ring = new StringBuilder(county);
            for (int p = 0; p < folk; p++) ring.append("oath ").append(p).append(' ').append((p + 1) % folk).append(" 7;");
            loneIs("20 LONE, nobody", 0, ring.toString(), 0);
            loneIs("20 SILENT, nobody", 0, ring.toString(), 1);
        }
    }

    private static void busyLadenMutual() {
        String[] without = {"", "folk 1 1;", SIX, SIX + "likes 0 1;hard 0 0;"};
        for (String county : without) {
            loneIs("20 BUSY, no OATHS", NONE, county, 2);
            loneIs("20 LADEN, no OATHS", NONE, county, 3);
            loneIs("20 MUTUAL, no OATHS", 0, county, 4);
        }
        loneIs("20 BUSY, one OATH", 5, SIX + "oath 5 4 0;", 2);
        loneIs("20 LADEN, one OATH", 4, SIX + "oath 5 4 0;", 3);
        loneIs("20 BUSY, of several the least", 2, SIX + "oath 5 4 0;oath 2 3 0;", 2);
        loneIs("20 LADEN, of several the least", 3, SIX + "oath 5 4 0;oath 2 3 0;", 3);
        loneIs("20 BUSY, one more", 5, SIX + "oath 2 3 0;oath 5 4 0;oath 5 4 0;", 2);
        loneIs("20 LADEN, one more", 4, SIX + "oath 2 3 0;oath 5 4 0;oath 5 4 0;", 3);
        loneIs("20 LADEN, by several", 1, SIX + "oath 0 3 0;oath 0 1 0;oath 2 1 0;", 3);
        loneIs("20 BUSY, twelve", 5, SIX + Checks.times("oath 5 0 0;", 12), 2);
        loneIs("20 MUTUAL, one way", 0, SIX + "oath 5 4 0;oath 5 4 1;", 4);
        loneIs("20 MUTUAL, both ways", 1, SIX + "oath 5 4 0;oath 4 5 1;", 4);
        loneIs("20 MUTUAL, told twice", 1, SIX + "oath 5 4 0;oath 4 5 1;oath 5 4 0;oath 4 5 1;", 4);
        loneIs("20 MUTUAL, a ring of three", 0, SIX + "oath 0 1 0;oath 1 2 0;oath 2 0 0;", 4);
        StringBuilder six = new StringBuilder(SIX);
        for (int a = 0; a < 4; a++) for (int b = 0; b < 4; b++) if (a != b) six.append("oath ").append(a).append(' ').append(b).append(" 0;");
        loneIs("20 MUTUAL, six couples", 6, six.toString(), 4);
    }

    private static void lovedOfSome() {
        loneIs("20 nobody there", NONE, "", 5);
        loneIs("20 nobody LIKES any", NONE, SIX, 5);
        for (int p = 0; p < 6; p++) loneIs("20 one LIKES", p, SIX + "likes " + (p + 1) % 6 + " " + p + ";", 5);
        loneIs("20 of several the least", 1, SIX + "likes 0 4;likes 2 1;", 5);
        loneIs("20 one more", 4, SIX + "likes 2 1;likes 0 4;likes 1 4;", 5);
        loneIs("20 told twice is one", 1, SIX + "likes 0 4;likes 0 4;likes 2 1;", 5);
        loneIs("20 whom, not who", 5, SIX + "likes 0 5;likes 1 5;likes 0 1;likes 0 2;likes 0 3;", 5);
    }

    private static void peaceIs(String sentence, int many, int which, String county) {
        loneIs("20 PEACE, " + sentence, many, county, 6);
        loneIs("20 PEACE, " + sentence, which, county, 7);
    }

    private static void peaceOfThings() {
        peaceIs("nobody there", 8, 255, "");
        peaceIs("no CLASH", 8, 255, SIX);
        peaceIs("one CLASH, the first two", 7, 253, "clash 0 1;");
        peaceIs("one CLASH, the last two", 7, 127, "clash 6 7;");
        peaceIs("the first and the last", 7, 127, "clash 0 7;");
        StringBuilder all = new StringBuilder();
        for (int a = 0; a < 8; a++) for (int b = a + 1; b < 8; b++) all.append("clash ").append(a).append(' ').append(b).append(';');
        peaceIs("all CLASH", 1, 1, all.toString());
        peaceIs("all but two CLASH", 2, 192, all.toString().replace("clash 6 7;", ""));
        peaceIs("of several the least", 2, 3, all.toString().replace("clash 6 7;", "").replace("clash 0 1;", ""));
        peaceIs("one with all others", 7, 254, "clash 0 1;clash 0 2;clash 0 3;clash 0 4;clash 0 5;clash 0 6;clash 0 7;");
        peaceIs("four couples", 4, 15, "clash 0 4;clash 1 5;clash 2 6;clash 3 7;");
    }

    private static void hardestOfThings() {
        loneIs("20 HARDEST, all alike", 0, "", 8);
        for (int t = 0; t < 8; t++) {
            loneIs("20 HARDEST, one more", t, "hard " + t + " 6;", 8);
            loneIs("20 HARDEST, one less", t == 0 ? 1 : 0, "hard " + t + " 4;", 8);
        }
        loneIs("20 HARDEST, of several the least", 3, "hard 7 9;hard 3 9;hard 5 9;", 8);
        loneIs("20 HARDEST, all 0", 0, "hard 0 0;hard 1 0;hard 2 0;hard 3 0;hard 4 0;hard 5 0;hard 6 0;hard 7 0;", 8);
        loneIs("20 HARDEST, the later", 0, "hard 7 9;hard 7 0;", 8);
    }

    private static void safeOaths() {
        loneIs("20 SAFE, nobody there", 0, "", 9);
        loneIs("20 SAFE, no OATHS", 0, SIX, 9);
        String twelve = Checks.times("oath 1 0 0;", 12);
        loneIs("20 SAFE, all twelve", 4095, "folk 9 1;folk 0 0;" + twelve, 9);
        loneIs("20 SAFE, none of twelve", 0, "folk 9 0;folk 0 0;" + twelve, 9);
        loneIs("20 SAFE, the last alone", 2048, "folk 9 1;folk 0 0;" + Checks.times("oath 1 0 1;", 11) + "oath 1 0 0;", 9);
        loneIs("20 SAFE, the first alone", 1, "folk 9 1;folk 0 0;oath 1 0 0;" + Checks.times("oath 1 0 1;", 11), 9);
        loneIs("20 SAFE, HEART just enough", 1, "folk 5 1;folk 0 0;oath 1 0 0;", 9);
        loneIs("20 SAFE, HEART one less", 0, "folk 4 1;folk 0 0;oath 1 0 0;", 9);
    }

    private static void spoilers() {
        loneIs("20 SPOILERS, no OATHS", 0, SIX, 10);
        loneIs("20 SPOILERS, none BROKEN", 0, TWO + oaths(1, 0, 4), 10);
        // Room for one: 0 is KEPT. Without it one of the others is, each of which is BROKEN now.
        loneIs("20 SPOILERS, the one that is KEPT", 1, "folk 9 1;folk 0 0;" + oaths(1, 0, 3), 10);
        loneIs("20 SPOILERS, itself does not count", 0, "folk 9 0;folk 0 0;oath 1 0 0;", 10);
        loneIs("20 SPOILERS, sworn twice: neither alone", 0, "folk 9 1;folk 0 0;oath 1 0 0;oath 1 0 0;oath 1 0 1;", 10);
        loneIs("20 SPOILERS, two would be BROKEN less", 1, "folk 9 1;folk 0 0;oath 1 0 0;oath 1 0 1;oath 1 0 1;", 10);
        // Its opener is one of two; without it the other OATH for it is BROKEN, and the next one is not.
        loneIs("20 SPOILERS, as many others BROKEN", 0, "folk 3 1;folk 0 0;folk 0 0;likes 0 1;oath 1 0 0;oath 2 0 0;oath 1 0 1;", 10);
        loneIs("20 SPOILERS, the last of twelve", 2048, "folk 9 1;folk 0 0;" + Checks.times("oath 1 0 1;", 11) + "oath 1 0 0;", 10);
    }

    private static void moreIs(String sentence, int many, int first, String county) {
        loneIs("20 MORE, " + sentence, many, county, 11);
        loneIs("20 MORE, " + sentence + ", the first", first, county, 12);
    }

    private static void moreOaths() {
        moreIs("nobody there", 0, NONE, "");
        moreIs("one alone", 0, NONE, "folk 9 4;");
        moreIs("no room", 0, NONE, "folk 9 0;folk 9 0;");
        moreIs("too HARD", 0, NONE, "folk 4 4;folk 4 4;");
        moreIs("just not too HARD", 8, 10, "folk 4 4;folk 5 4;");
        moreIs("just not too HARD", 8, 100, "folk 5 4;folk 4 4;");
        moreIs("all of two", 16, 10, TWO);
        moreIs("all of six", 240, 10, SIX);
        moreIs("the last of all", 1, 547, "folk 0 0;folk 0 0;folk 0 0;folk 0 0;folk 3 1;folk 0 0;likes 4 5;hard 0 9;hard 1 9;hard 2 9;hard 3 9;hard 4 9;hard 5 9;hard 6 9;");
        moreIs("those that are there are none", 15, 11, TWO + "oath 0 1 0;");
        moreIs("full room: what is KEPT, by nobody else", 8, 100, TWO + oaths(0, 1, 4));
        // A 13th is not told, but might be there.
        moreIs("though 12 there are", 15, 11, TWO + Checks.times("oath 0 1 0;", 12));
        moreIs("a lesser one would break the other", 0, NONE, "folk 0 0;folk 9 1;oath 0 1 7;");
        moreIs("sworn by another one, too", 1, 217, "folk 0 0;folk 9 1;folk 0 0;oath 0 1 7;");
        moreIs("BROKEN ones may stay BROKEN", 1, 210, "folk 0 0;folk 9 1;folk 0 0;oath 0 1 0;oath 0 1 1;");
    }

    private static void weakIs(String sentence, String county, int who, int over, int under) {
        loneIs("20 WEAK, " + sentence, who, county, 13);
        loneIs("20 WEAK, " + sentence + ", N", over, county, 14);
        loneIs("20 WEAK, " + sentence + ", D", under, county, 15);
    }

    private static void weakest() {
        weakIs("nobody there", "", NONE, NONE, NONE);
        weakIs("no OATHS", SIX, NONE, NONE, NONE);
        weakIs("all KEPT", TWO + oaths(1, 0, 4), 0, 1, 1);
        weakIs("none KEPT", "folk 9 0;folk 0 0;" + oaths(1, 0, 4), 0, 0, 1);
        weakIs("the last one", SIX + "oath 0 5 0;", 5, 1, 1);
        weakIs("half, least terms", TWO + oaths(1, 0, 8), 0, 1, 2);
        weakIs("one of eight", "folk 9 1;folk 0 0;" + oaths(1, 0, 8), 0, 1, 8);
        weakIs("three of seven", "folk 9 3;folk 0 0;" + oaths(1, 0, 7), 0, 3, 7);
        weakIs("of several the least", "folk 9 1;folk 9 2;" + oaths(1, 0, 2) + oaths(0, 1, 4), 0, 1, 2);
        weakIs("of several the least", "folk 9 2;folk 9 1;" + oaths(1, 0, 4) + oaths(0, 1, 2), 0, 1, 2);
        weakIs("by part, not by number", "folk 9 2;folk 9 1;" + oaths(1, 0, 5) + oaths(0, 1, 2), 0, 2, 5);
        weakIs("the other one", "folk 9 1;folk 9 2;" + oaths(1, 0, 2) + oaths(0, 1, 5), 1, 2, 5);
        weakIs("THINGS, not OATHS", "folk 9 1;folk 9 1;oath 1 0 0;" + Checks.times("oath 1 0 1;", 8), 0, 1, 2);
        weakIs("none of any", "folk 9 4;folk 0 0;folk 9 0;oath 1 0 0;oath 0 1 0;oath 0 2 0;", 1, 0, 1);
    }

    private static void loneOfNone() {
        SwornCounty what = Checks.with(SIX);
        C.outside(0, 15, "20 for another what", -2, w -> what.lone(0, w));
        for (int many = 0; many <= 2; many++) {
            int[] due = {0, 0, 0, 0, 1, NONE, 8, 255, 0, 3, 0, 14, 11, 0, 1, 1};
            for (int w = 0; w <= 15; w++) {
                int of = w;
                SwornCounty x = new SwornCounty();
                for (int i = 0; i < many; i++) Checks.tell(x, 0, NONE, TWO + "oath 0 1 0;oath 1 0 0;");
                for (int i = 0; i < many; i++) C.due("20 a COUNTY, what " + w, due[w], x.lone(i, w));
                C.outside(0, many - 1, "20 no such COUNTY", -2, c -> x.lone(c, of));
            }
        }
    }

    // ---- Promises 21 and 22

    private static void chainIs(String sentence, String county, int... row) {
        SwornCounty x = Checks.with(county);
        C.due("21 " + sentence, row.length, x.chain(0, NONE));
        for (int k = 0; k < row.length; k++) C.due("21 " + sentence + " the k-th " + k, row[k], x.chain(0, k));
        C.outside(NONE, row.length - 1, "21 " + sentence + " not so many", NONE, k -> x.chain(0, k));
    }

    private static void chainOfSome() {
        chainIs("nobody there", "");
        chainIs("one alone", "folk 1 1;", 0);
        chainIs("no OATHS", SIX, 0);
        chainIs("the last two", SIX + "oath 5 4 0;", 5, 4);
        chainIs("the first by numbers", SIX + "oath 5 4 0;oath 0 5 0;oath 0 1 0;oath 1 2 0;", 0, 1, 2);
        chainIs("a longer one behind", SIX + "oath 0 1 0;oath 5 4 0;oath 4 3 0;", 5, 4, 3);
        chainIs("unlike ones in a ring", SIX + "oath 0 1 0;oath 1 0 0;", 0, 1);
        chainIs("a ring of all", SIX + "oath 0 1 0;oath 1 2 0;oath 2 3 0;oath 3 4 0;oath 4 5 0;oath 5 0 0;", 0, 1, 2, 3, 4, 5);
        chainIs("all the other way", SIX + "oath 1 0 0;oath 2 1 0;oath 3 2 0;oath 4 3 0;oath 5 4 0;", 5, 4, 3, 2, 1, 0);
        chainIs("told twice", SIX + "oath 2 3 0;oath 2 3 0;oath 2 3 1;", 2, 3);
        for (int many = 0; many <= 2; many++) {
            for (int k = NONE; k <= 0; k++) {
                int of = k;
                SwornCounty x = new SwornCounty();
                for (int i = 0; i < many; i++) Checks.tell(x, 0, NONE, SIX + "oath 5 4 0;");
                for (int i = 0; i < many; i++) C.due("21 a COUNTY", k == NONE ? 2 : 5, x.chain(i, k));
                C.outside(0, many - 1, "21 no such COUNTY", NONE, c -> x.chain(c, of));
            }
        }
    }

    private static void stepsOfSome() {
        StringBuilder row = new StringBuilder(SIX);
        for (int p = 0; p < 5; p++) row.append("likes ").append(p).append(' ').append(p + 1).append(';');
        SwornCounty x = Checks.with(row.toString());
        for (int a = -2; a <= 7; a++) {
            for (int b = -2; b <= 7; b++) {
                boolean there = a >= 0 && b >= 0 && a < 6 && b < 6;
                C.due("22 steps " + a + " " + b, there && a <= b ? b - a : NONE, x.steps(0, a, b));
            }
        }
        SwornCounty ring = Checks.with(row + "likes 5 0;");
        for (int a = 0; a < 6; a++) for (int b = 0; b < 6; b++) C.due("22 in a ring", (b - a + 6) % 6, ring.steps(0, a, b));
        SwornCounty shorter = Checks.with(row + "likes 0 4;");
        C.due("22 the fewest", 2, shorter.steps(0, 0, 5));
        C.due("22 the fewest", 3, shorter.steps(0, 0, 3));
        for (int folk = 0; folk <= 6; folk++) {
            SwornCounty y = Checks.with(Checks.times("folk 5 1;", folk));
            for (int a = -2; a <= 7; a++)
                for (int b = -2; b <= 7; b++) C.due("22 to themselves 0, none: none", a == b && a >= 0 && a < folk ? 0 : NONE, y.steps(0, a, b));
            for (int far : Checks.FAR) {
                C.due("22 there is none such", NONE, y.steps(0, far, 0));
                C.due("22 there is none such", NONE, y.steps(0, 0, far));
                C.due("22 there is none such", NONE, y.steps(0, far, far));
            }
        }
        for (int many = 0; many <= 2; many++) {
            SwornCounty y = new SwornCounty();
            for (int i = 0; i < many; i++) Checks.tell(y, 0, NONE, SIX);
            for (int i = 0; i < many; i++) C.due("22 a COUNTY", 0, y.steps(i, 5, 5));
            C.outside(0, many - 1, "22 no such COUNTY", NONE, c -> y.steps(c, 0, 0));
        }
    }

    /** Of one question, and of one COUNTY, nothing is left for the next. */
    private static void nothingIsLeft() {
        SwornCounty x = Checks.with(TWO + "likes 0 1;oath 0 1 0;oath 0 1 1;oath 1 0 0;", null, "want 0 0;want 1 0;", "kept 0 0;");
        Checks.tell(x, 0, NONE, "folk 0 0;folk 0 0;folk 0 0;");
        Checks.tell(x, 2, NONE, "");
        Checks.tell(x, 3, NONE, "");
        int[][] lone = {{0, 0, 0, 1, 1, 1, 8, 255, 0, 7, 0, 13, 12, 0, 1, 1},
            {7, 7, NONE, NONE, 0, NONE, 8, 255, 0, 0, 0, 0, NONE, NONE, NONE, NONE}};
        int[][] fall = {{0, 0, 0, 2, 3}, {0, 0, 0, NONE, 0}};
        for (int i = 0; i < 6; i++) {
            int c = i % 2;
            for (int what = 0; what < 16; what++) C.due("20 of each COUNTY, what " + what, lone[c][what], x.lone(c, what));
            for (int what = 0; what < 5; what++) C.due("12 of each COUNTY, what " + what, fall[c][what], x.fall(c, what));
            C.due("21 of each COUNTY", c == 0 ? 2 : 1, x.chain(c, NONE));
            C.due("21 of each COUNTY", c == 0 ? 1 : NONE, x.chain(c, 1));
            C.due("14 of each COUNTY", c == 0 ? 2 : 0, x.swearers(c, 0, NONE));
            C.due("14 of each WANTS", 0, x.swearers(c, 1, NONE));
            C.due("15 of each n", c == 0 ? 2 : 0, x.dare(c, 0, 1, 3, false));
            C.due("15 of each n", c == 0 ? 2 : 0, x.dare(c, 0, 1, 3, true));
            C.due("15 of each n", NONE, x.dare(c, 0, 1, 0, true));
            C.due("15 of each n", c == 0 ? 1 : 0, x.dare(c, 0, 1, 0, false));
            C.due("16 of each n", 1, x.chance(c, 0, 1, 0, 10, 6, false));
            C.due("16 of each n", c == 0 ? 1 : 0, x.chance(c, 0, 1, 0, 10, 0, false));
            C.due("18 of each LOG", c == 0 ? 28 : 0, x.fits(c, 0, 0, 0));
            C.due("18 of each LOG", 50, x.fits(c, 1, 0, 0));
            C.due("10 of each COUNTY", c == 0 ? 1 : 0, x.keeps(c, 0, 2));
            C.due("11 as told", c == 0 ? 9 : 0, x.heart(c, 0, 1));
        }
    }
}
