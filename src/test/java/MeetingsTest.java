import java.util.ArrayList;
import java.util.List;

/**
 * Where two sentences of the document meet: texts in the place of one and images, the tape and the FAULT
 * behind again(), a COUNTY taken anew between two questions of it, OATHS as told beside all others.
 */
public final class MeetingsTest {
    private static final int NONE = SwornCounty.NONE;
    private static final Checks C = new Checks();

    private static final String[] COUNTIES = {
        "folk 3 2;folk 6 1;folk 9 0;folk 2 4;hard 0 4;hard 1 8;hard 7 0;clash 0 3;likes 1 0;likes 0 3;"
            + "oath 0 1 1;oath 1 0 0;oath 3 0 3;oath 2 3 7;oath 0 2 7;",
        "folk 9 4;folk 8 3;folk 7 3;folk 6 2;folk 5 1;folk 4 0;clash 0 1;clash 1 2;clash 5 6;oath 0 5 0;oath 1 4 1;oath 2 0 0;"
            + "oath 3 0 1;oath 4 0 2;oath 5 0 6;oath 0 1 5;oath 0 1 6;oath 1 0 7;oath 5 4 3;likes 0 1;likes 1 2;likes 2 0;likes 5 0;",
        "folk 9 4;folk 0 4;oath 0 1 0;oath 1 0 1;oath 1 0 2;oath 1 0 5;",
        "folk 5 1;",
        ""};
    private static final String TERM = "visit 1 0;swear 1 0 4;monday;swear 0 1 1;rest 1;court 0 1;monday;tire 0;";

    public static void main(String[] args) {
        eachLastByte();
        countyAnewBetweenQuestions();
        countiesByTurns();
        questionsChangeNothing();
        imagesOfCounties();
        inThePlaceOfOneAndImages();
        faultInThePlaceOfOne();
        imageOfNothing();
        tapeBehindAgain();
        fullTapeBehindAgain();
        faultBehindAgain();
        faultOutlastsTheTape();
        oathsAsToldInATerm();
        twelveAsTold();
        oathsAsToldAndSwearers();
        oathsAsToldAndDare();
        oathsAsToldAndTheRest();
        C.close("MeetingsTest");
    }

    /** A text that goes on with one byte more, in the class and in the plain county that it is held against. */
    private static void eachLastByte() {
        for (int b = 0; b < 256; b++) {
            SwornCounty x = new SwornCounty();
            PlainCounty y = new PlainCounty();
            boolean blank = b == 10 || b == 32;
            int third = 0x3b000000 | b << 16;
            x.feed(0x77616e74, 0x20302030, third, 0, 0);
            y.feed(0x77616e74, 0x20302030, third, 0, 0);
            x.end(10);
            y.end(10);
            C.due("4 want 0 0; and byte " + b, blank ? 0 : NONE, x.text(2, NONE));
            C.due("4 plain, want 0 0; and byte " + b, blank ? 0 : NONE, y.text(2, NONE));
            // Letters, digits and ; are tokens, but none with which this text goes on.
            C.due("5 fault by byte " + b, blank ? 0 : 1, x.fault(0));
            C.due("5 place of byte " + b, blank ? NONE : 9, x.fault(1));
            C.due("5 plain, place of byte " + b, blank ? NONE : 9, y.fault(1));
        }
    }

    /** Some 120 answers of all kinds: an object can be asked them three times within its 512 calls. */
    private static List<Integer> answers(SwornCounty x, int c) {
        List<Integer> all = new ArrayList<>();
        int[] told = {0, 1, 10, 11, 20, 21, 30, 31, 40, 41, 50, 51, 100, 200, 300, 304};
        for (int what : told) all.add(x.county(c, what));
        for (int p = 0; p < 3; p++) for (int what = 0; what <= 5; what++) all.add(x.keeps(c, p, what));
        for (int what = 0; what <= 4; what++) all.add(x.fall(c, what));
        for (int what = 0; what <= 15; what++) all.add(x.lone(c, what));
        for (int k = -1; k <= 3; k++) all.add(x.chain(c, k));
        for (int k = -1; k <= 2; k++) all.add(x.swearers(c, 0, k));
        for (int n = 0; n <= 2; n++) {
            all.add(x.dare(c, 0, 1, n, false));
            all.add(x.dare(c, 0, 1, n, true));
        }
        for (int what = 0; what <= 5; what++) all.add(x.fits(c, 0, 0, what));
        int[] states = {0, 1, 2, 3, 4, 10, 20, 30, 31, 41, 50};
        for (int what : states) all.add(x.state(c, 0, 3, what));
        for (int what : states) all.add(x.state(c, 0, x.stop(c, 0), what));
        for (int what : states) all.add(x.drawn(c, 41, 30, what));
        for (int what = 0; what <= 4; what++) all.add(x.after(c, 0, what));
        all.add(x.heart(c, 1, 0));
        all.add(x.steps(c, 1, 0));
        all.add(x.chance(c, 1, 0, 1, 3, 4, false));
        all.add(x.chance(c, 1, 0, 1, 3, 4, true));
        return all;
    }

    private static SwornCounty with(String county) {
        return Checks.with(county, TERM, "want 0 1;want 1 0;want 0 2;", "broke 0 0;kept 0 1;");
    }

    private static void sameAnswers(String call, List<Integer> want, List<Integer> got) {
        C.due(call + ": how many", want.size(), got.size());
        for (int i = 0; i < want.size() && i < got.size(); i++) C.due(call + ": answer " + i, want.get(i), got.get(i));
    }

    /** Whatever was asked of the one before, the one in its place answers as if it had been told alone. */
    private static void countyAnewBetweenQuestions() {
        for (String before : COUNTIES) {
            for (String then : COUNTIES) {
                SwornCounty x = with(before);
                answers(x, 0);
                C.due("4 in the place of one", 0, Checks.tell(x, 0, 0, then));
                sameAnswers("4 " + then + " in the place of " + before, answers(with(then), 0), answers(x, 0));
            }
        }
    }

    private static void countiesByTurns() {
        for (String first : COUNTIES) {
            for (String second : COUNTIES) {
                SwornCounty x = with(first);
                C.due("4 a further one", 1, Checks.tell(x, 0, NONE, second));
                sameAnswers("6 the first", answers(with(first), 0), answers(x, 0));
                sameAnswers("6 the second", answers(with(second), 0), answers(x, 1));
            }
        }
    }

    private static void questionsChangeNothing() {
        for (String county : COUNTIES) {
            SwornCounty x = with(county);
            List<Integer> once = answers(x, 0);
            sameAnswers("asked twice, " + county, once, answers(x, 0));
            C.due("asked twice, FAULT", 0, x.fault(0));
            C.due("asked twice, tape", NONE, x.end(1));
        }
    }

    /** An image has the county as it was, also where one was taken in its place and asked of since. */
    private static void imagesOfCounties() {
        for (String before : COUNTIES) {
            for (String then : COUNTIES) {
                SwornCounty x = with(before);
                x.image(1);
                Checks.tell(x, 0, 0, then);
                answers(x, 0);
                x.image(0);
                C.due("26 again", true, x.again(1));
                sameAnswers("26 again " + before, answers(with(before), 0), answers(x, 0));
                x.again(0);
                C.due("26 the other", with(then).keeps(0, 0, 2), x.keeps(0, 0, 2));
            }
        }
    }

    /** Of each sort: one in the place of one leaves the other and the images, and these bring the old one back. */
    private static void inThePlaceOfOneAndImages() {
        String[] texts = {"folk 1 1;", "tire 0;", "want 0 0;", "kept 0 0;"};
        for (int sort = 0; sort < 4; sort++) {
            SwornCounty x = new SwornCounty();
            Checks.tell(x, sort, NONE, texts[sort]);
            x.image(0);
            Checks.tell(x, sort, NONE, texts[sort] + texts[sort]);
            x.image(1);
            C.due("4 in the place of the first", 0, Checks.tell(x, sort, 0, Checks.times(texts[sort], 3)));
            C.due("4 the first", 3, sizeOf(x, sort, 0));
            C.due("4 the other stays", 2, sizeOf(x, sort, 1));
            C.due("24 no more than before", 2, x.count(sort));
            x.image(2);
            x.again(1);
            C.due("26 the first as it was", 1, sizeOf(x, sort, 0));
            C.due("26 the second", 2, sizeOf(x, sort, 1));
            x.again(0);
            C.due("26 one", 1, x.count(sort));
            C.due("26 there is no second", sort == 0 ? NONE : -2, sizeOf(x, sort, 1));
            C.due("4 no place of a second", -2, Checks.tell(x, sort, 1, texts[sort]));
            // The image had one: a further one is the second once more, and the images don't see it.
            C.due("4 a further one", 1, Checks.tell(x, sort, NONE, ""));
            C.due("4 a further one", 0, sizeOf(x, sort, 1));
            x.again(2);
            C.due("26 the first", 3, sizeOf(x, sort, 0));
            C.due("26 the second", 2, sizeOf(x, sort, 1));
            C.due("4 there are two", -2, Checks.tell(x, sort, NONE, texts[sort]));
        }
    }

    private static int sizeOf(SwornCounty x, int sort, int number) {
        return sort == 0 ? x.county(number, 0) : sort == 1 ? x.deed(number, NONE, 0)
            : sort == 2 ? x.want(number, NONE, 0) : x.fact(number, NONE, 0);
    }

    /** A FAULT leaves what is there, and what follows from it. */
    private static void faultInThePlaceOfOne() {
        for (String county : COUNTIES) {
            SwornCounty x = with(county);
            answers(x, 0);
            C.due("4 a FAULT", NONE, Checks.tell(x, 0, 0, "folk 9 4;folk 9 4;clash 0 1;oath 0 1 0;oath 0 2 1;"));
            C.due("5 not there", 4, x.fault(0));
            C.due("5 at the end", 50, x.fault(1));
            C.due("4 a FAULT", NONE, Checks.tell(x, 1, 0, "monday;monday;tire 9;"));
            C.due("4 a FAULT", NONE, Checks.tell(x, 2, 0, "want 0 9;"));
            C.due("4 a FAULT", NONE, Checks.tell(x, 3, 0, "kept 0"));
            sameAnswers("4 as before the FAULTS", answers(with(county), 0), answers(x, 0));
        }
    }

    private static void imageOfNothing() {
        SwornCounty x = new SwornCounty();
        x.image(0);
        Checks.tell(x, 0, NONE, COUNTIES[0]);
        Checks.tell(x, 1, NONE, TERM);
        Checks.tell(x, 0, NONE, "folk");
        x.feed(0, 0, 0, 0, 0);
        C.due("26 again", true, x.again(0));
        for (int sort = 0; sort < 4; sort++) C.due("26 nothing is told", 0, x.count(sort));
        C.due("26 no county", NONE, x.county(0, 0));
        C.due("26 no term", -2, x.deed(0, NONE, 0));
        C.due("26 no FAULT", 0, x.fault(0));
        C.due("26 no place", NONE, x.fault(1));
        C.due("26 no tape", NONE, x.end(1));
        C.due("4 none to replace", -2, Checks.tell(x, 0, 0, COUNTIES[0]));
        C.due("4 the first", 0, Checks.tell(x, 0, NONE, COUNTIES[0]));
    }

    /** The tape's bytes come back, not its length alone; those behind its end do not. */
    private static void tapeBehindAgain() {
        int[][] takings = {{2, NONE}, {2, 0}, {2, 7}, {9, NONE}, {0, NONE}};
        int[] due = {0, -2, -2, -2, NONE};
        for (int i = 0; i < takings.length; i++) {
            SwornCounty x = new SwornCounty();
            Checks.feed(x, "want 3 4;want 5 6;want 9 9;");
            x.end(18);
            x.image(0);
            C.due("4 taken", due[i], x.text(takings[i][0], takings[i][1]));
            C.due("4 empty", NONE, x.end(1));
            Checks.feed(x, "kept 1 1;broke 0 0;kept 1 2;kept 1 3;");
            C.due("26 again", true, x.again(0));
            C.due("26 no longer", NONE, x.end(19));
            C.due("26 as long", 18, x.end(18));
            C.due("26 none is told", 0, x.count(2));
            C.due("26 its bytes", 0, x.text(2, NONE));
            C.due("26 its bytes", 2, x.want(0, NONE, 0));
            C.due("26 its bytes", 3, x.want(0, 0, 0));
            C.due("26 its bytes", 6, x.want(0, 1, 1));
            // Taken again by the same image: it is a first one each time.
            x.again(0);
            C.due("26 and again", 0, x.text(2, NONE));
            C.due("26 and again", 1, x.count(2));
        }
    }

    private static void fullTapeBehindAgain() {
        SwornCounty x = new SwornCounty();
        x.image(1);
        Checks.feed(x, Checks.times("monday;", 40) + Checks.times(" ", 320));
        C.due("2 it is full", NONE, x.feed(0, 0, 0, 0, 0));
        x.image(0);
        x.again(1);
        C.due("26 empty", 20, x.feed(0, 0, 0, 0, 0));
        x.again(0);
        C.due("26 it is full", NONE, x.feed(0, 0, 0, 0, 0));
        C.due("4 taken", 0, x.text(1, NONE));
        C.due("7 all of it", 40, x.deed(0, NONE, 0));
        x.again(0);
        C.due("3 cut", 280, x.end(280));
        C.due("2 further", 300, x.feed(0x6d6f6e64, 0x61793b20, 0x20202020, 0x20202020, 0x20202020));
        C.due("4 a 41st", NONE, x.text(1, NONE));
        C.due("5 a 41st", 3, x.fault(0));
        C.due("5 at its first token", 280, x.fault(1));
    }

    /** The FAULT is of the latest text() before the image, whatever came since. */
    private static void faultBehindAgain() {
        SwornCounty x = new SwornCounty();
        x.image(0);
        C.due("4 a FAULT", NONE, Checks.tell(x, 0, NONE, "folk 1 1;folk 1 5;"));
        Checks.feed(x, "folk 1 1;");
        x.image(1);
        C.due("4 none", 0, x.text(0, NONE));
        Checks.tell(x, 3, NONE, "kept 0 0;broke 8");
        x.image(2);
        int[][] due = {{0, NONE, 0}, {2, 16, 9}, {1, 16, 0}};
        int[] turns = {2, 0, 1, 0, 2, 1, 1};
        for (int k : turns) {
            C.due("26 again", true, x.again(k));
            C.due("26 the FAULT of " + k, due[k][0], x.fault(0));
            C.due("26 its place", due[k][1], x.fault(1));
            C.due("26 the tape", due[k][2], x.end(due[k][2]));
            C.due("26 no longer", NONE, x.end(due[k][2] + 1));
        }
        C.due("4 no place", -2, x.text(0, 1));
        C.due("5 FAULT 0", 0, x.fault(0));
        C.due("26 no such image", false, x.again(3));
        C.due("26 changes nothing", 0, x.fault(0));
        x.again(1);
        C.due("26 the FAULT", 2, x.fault(0));
    }

    private static void faultOutlastsTheTape() {
        SwornCounty x = new SwornCounty();
        Checks.tell(x, 1, NONE, "monday;;");
        x.feed(0, 0, 0, 0, 0);
        x.end(3);
        x.end(0);
        x.image(0);
        x.county(0, 0);
        C.due("5 of the latest text()", 1, x.fault(0));
        C.due("5 of the latest text()", 7, x.fault(1));
        Checks.tell(x, 1, NONE, "");
        C.due("5 of the latest text()", 0, x.fault(0));
        C.due("5 of the latest text()", NONE, x.fault(1));
    }

    private static void statesAre(SwornCounty x, int[][] due) {
        for (int[] d : due) C.due("9 state " + d[0] + " " + d[1], d[2], x.state(0, 0, d[0], d[1]));
    }

    private static void oathsAsToldInATerm() {
        String three = "folk 5 1;folk 5 1;folk 5 1;oath 0 1 3;";
        // As told 1 keeps 3; 1 being sworn, too, it is 1 that they have room for, and 0 is perjured by what was told.
        SwornCounty x = Checks.with(three, "swear 0 1 1;monday;swear 2 1 3;swear 0 1 5;", null, null);
        C.due("20 safe as told", 1, x.lone(0, 9));
        statesAre(x, new int[][] {{0, 4, 1}, {0, 21, 8}, {0, 31, 8}, {1, 4, 2}, {1, 21, 10}, {1, 31, 2},
            {2, 1, 1}, {2, 2, 1}, {2, 3, 1}, {2, 4, 0}, {3, 4, 1}, {3, 31, 8}});
        C.due("8 the perjured one", 3, x.stop(0, 0));
        C.due("23 first", 1, x.after(0, 0, 0));
        C.due("23 sworn by swear alone", 2, x.after(0, 0, 4));
        // The term has left the county as it was told.
        C.due("6 oaths as told", 1, x.county(0, 1));
        C.due("12 fall as told", 0, x.fall(0, 0));
        C.due("10 keeps as told", 8, x.keeps(0, 1, 2));
        C.due("20 safe as told", 1, x.lone(0, 9));
        // Just the oath that was told can't be sworn before Monday; by another one it can.
        x = Checks.with(three, "swear 0 1 3;", null, null);
        C.due("8 just this oath", 0, x.stop(0, 0));
        Checks.tell(x, 1, 0, "swear 2 1 3;monday;swear 0 1 3;");
        C.due("8 of another one, and behind Monday", 3, x.stop(0, 0));
        statesAre(x, new int[][] {{1, 4, 2}, {2, 1, 2}, {2, 3, 0}, {3, 4, 1}});
        C.due("23 sworn", 2, x.after(0, 0, 4));
        // What was told twice is two oaths, and both are broken.
        x = Checks.with("folk 0 1;folk 5 1;oath 1 0 0;oath 1 0 0;", "monday;", null, null);
        statesAre(x, new int[][] {{0, 4, 2}, {1, 2, 2}, {1, 3, 2}});
        C.due("23 sworn", 0, x.after(0, 0, 4));
    }

    /** Twelve as told: a swear can't be before Monday, but what DARE and MORE think of counts. */
    private static void twelveAsTold() {
        StringBuilder twelve = new StringBuilder("folk 9 4;folk 9 4;");
        for (int t = 0; t < 8; t++) twelve.append("oath 0 1 ").append(t).append(';');
        for (int t = 0; t < 4; t++) twelve.append("oath 1 0 ").append(t).append(';');
        SwornCounty x = Checks.with(twelve.toString(), "swear 1 0 5;", null, null);
        C.due("8 there are 12", 0, x.stop(0, 0));
        Checks.tell(x, 1, 0, "monday;swear 1 0 5;swear 0 1 5;");
        C.due("8 behind Monday", 2, x.stop(0, 0));
        statesAre(x, new int[][] {{0, 4, 12}, {1, 1, 8}, {1, 2, 4}, {1, 3, 1}, {2, 4, 1}, {2, 20, 32}});
        x = Checks.with("folk 9 4;folk 9 4;" + Checks.times("oath 1 0 0;", 12), "swear 1 0 1;", null, null);
        C.due("8 there are 12", 0, x.stop(0, 0));
        C.due("15 a 13th", 2, x.dare(0, 1, 0, 1, false));
        C.due("15 which", 1, x.dare(0, 1, 0, 1, true));
        C.due("20 more", 15, x.lone(0, 11));
        C.due("20 the first", 10, x.lone(0, 12));
    }

    private static void oathsAsToldAndSwearers() {
        // Were 3 there as told, 1 would have no room for 5.
        SwornCounty x = Checks.with("folk 5 1;folk 5 1;folk 5 1;oath 0 1 3;", null, "want 1 5;", null);
        C.due("14 how many", 1, x.swearers(0, 0, NONE));
        C.due("14 who", 0, x.swearers(0, 0, 0));
        // 3 is open to 1 by 0 alone, and what 0 swore as told is none of these: so 1 must swear for 2.
        x = Checks.with("folk 5 1;folk 7 1;folk 5 1;hard 3 9;likes 1 0;oath 0 1 3;", null, "want 2 0;want 1 3;", null);
        C.due("10 as told", 8, x.keeps(0, 1, 2));
        C.due("14 how many", 2, x.swearers(0, 0, NONE));
        C.due("14 who", 1, x.swearers(0, 0, 0));
        C.due("14 who", 0, x.swearers(0, 0, 1));
        C.due("6 as told", 1, x.county(0, 1));
    }

    private static void oathsAsToldAndDare() {
        // 1 has room for 3 alone, which was told; 0 for one, of which there is none.
        SwornCounty x = Checks.with("folk 5 1;folk 5 1;folk 5 1;oath 0 1 3;");
        int[] due = {1, 1, 0, 0};
        for (int n = 0; n <= 3; n++) C.due("15 dare 0 1 " + n, due[n], x.dare(0, 0, 1, n, false));
        int[] other = {-1, 0, 0, 0};
        for (int n = 0; n <= 3; n++) C.due("15 dare 1 0 " + n, other[n], x.dare(0, 1, 0, n, false));
        // Just the oath that was told may be sworn, and is one: 3 is the only thing that is not too hard.
        x = Checks.with("folk 2 4;folk 2 4;hard 3 2;hard 6 2;oath 0 1 3;");
        C.due("15 as told", 1, x.dare(0, 0, 1, 0, false));
        C.due("15 the other one", 2, x.dare(0, 0, 1, 1, false));
        C.due("15 the other one", 6, x.dare(0, 0, 1, 1, true));
        x = Checks.with("folk 2 4;folk 2 4;hard 3 2;oath 0 1 3;");
        C.due("15 no more than that", 1, x.dare(0, 0, 1, 1, false));
        C.due("15 the least of all, to no use", 0, x.dare(0, 0, 1, 1, true));
    }

    private static void oathsAsToldAndTheRest() {
        SwornCounty x = Checks.with("folk 5 1;folk 5 1;folk 5 1;oath 0 1 3;", "visit 2 1;swear 2 1 0;monday;", null, "kept 1 3;");
        // Behind the term 1 would have kept 0, but what FITS is of the county as told.
        C.due("9 behind the term", 1, x.state(0, 0, 2, 31));
        C.due("18 fits", 20, x.fits(0, 0, 1, 0));
        C.due("18 the first", 51, x.fits(0, 0, 1, 10));
        C.due("18 the last", 94, x.fits(0, 0, 1, 29));
        C.due("11 no visits as told", 5, x.heart(0, 2, 1));
        C.due("16 no visits as told", 0, Checks.with("folk 4 1;folk 0 0;", "visit 1 0;", null, null).chance(0, 1, 0, 0, 0, 6, false));
        // What is drawn begins with them, too.
        C.due("19 as told", 1, x.drawn(0, 12345, 0, 4));
        C.due("19 as told", 8, x.drawn(0, 12345, 0, 31));
        C.due("19 no visits", 0, x.drawn(0, 12345, 0, 51));
    }
}
