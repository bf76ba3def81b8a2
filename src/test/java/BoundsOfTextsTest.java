/** Term 1 with promises 1 to 5 and 24 to 26: the bounds of the tape, of tokens, of texts, FAULTS and images. */
public final class BoundsOfTextsTest {
    private static final int NONE = SwornCounty.NONE;
    private static final Checks C = new Checks();

    /** A kind of line: the sort of text that has it, the most that each NUMBER can be, whether the first two are unlike. */
    private record Kind(int sort, String word, boolean unlike, int... most) {
        /** The line with NUMBERS that can be. */
        String good() {
            return line(0, 1, 0);
        }

        String line(int... numbers) {
            StringBuilder sb = new StringBuilder(word);
            for (int i = 0; i < most.length; i++) sb.append(' ').append(numbers[i]);
            return sb.append(';').toString();
        }

        /** What must stand before it so that all are there whom it tells of. */
        String before() {
            return word.equals("likes") || word.equals("oath") ? SIX : "";
        }
    }

    private static final String SIX = Checks.times("folk 0 0;", 6);
    private static final Kind[] KINDS = {
        new Kind(0, "folk", false, 9, 4), new Kind(0, "hard", false, 7, 9), new Kind(0, "clash", true, 7, 7),
        new Kind(0, "likes", true, 5, 5), new Kind(0, "oath", true, 5, 5, 7), new Kind(1, "monday", false),
        new Kind(1, "tire", false, 5), new Kind(1, "rest", false, 5), new Kind(1, "visit", true, 5, 5),
        new Kind(1, "court", true, 5, 5), new Kind(1, "cut", true, 5, 5), new Kind(1, "swear", true, 5, 5, 7),
        new Kind(2, "want", false, 5, 7), new Kind(3, "kept", false, 5, 7), new Kind(3, "broke", false, 5, 7)};
    private static final String[] GOOD = {"folk 1 1;", "monday;", "want 0 0;", "kept 0 0;"};

    public static void main(String[] args) {
        newObject();
        feedUpTo600();
        feedByteByByte();
        endOfTheTape();
        bytesBehindTheEnd();
        tapeOf600Bytes();
        textsAtMostTwo();
        textOfNoSuchSort();
        textInNoPlace();
        textWithFault();
        faultWhat();
        blanksAreTwoBytes();
        noByteAlone();
        bytesOfNumbers();
        rowsOfDigits();
        wordsOfSorts();
        wordsNotQuite();
        tokensAsLongAsTheyGo();
        numbersTooFewOrMany();
        linesCutOff();
        fault1BeforeAll();
        fault2EachNumber();
        fault2Unlike();
        fault2FirstByPlace();
        fault3AtMost();
        fault3OfAllKinds();
        fault3AndOthers();
        fault4NotThere();
        fault4AtTheEnd();
        emptyTexts();
        countBounds();
        imageBounds();
        againBounds();
        imageHasAll();
        imageOfTapeAndFault();
        C.close("BoundsOfTextsTest");
    }

    /** A new object takes the text; FAULT 0 stands for a text without. */
    private static void faultIs(String sentence, int sort, String text, int fault, int place) {
        SwornCounty x = new SwornCounty();
        String call = sentence + " [" + text.replace('\n', '/') + "]";
        C.due(call, fault == 0 ? 0 : NONE, Checks.tell(x, sort, NONE, text));
        C.due(call + " fault", fault, x.fault(0));
        C.due(call + " place", place, x.fault(1));
        C.due(call + " count", fault == 0 ? 1 : 0, x.count(sort));
        C.due(call + " empty then", NONE, x.end(1));
    }

    private static void taken(String sentence, int sort, String text) {
        faultIs(sentence, sort, text, 0, NONE);
    }

    // ---- Promise 1

    private static void newObject() {
        for (int sort = 0; sort < 4; sort++) {
            SwornCounty x = new SwornCounty();
            C.due("1 no texts", 0, x.count(sort));
            C.due("1 none in whose place", -2, Checks.tell(x, sort, 0, GOOD[sort]));
            C.due("1 the first is 0", 0, Checks.tell(x, sort, NONE, GOOD[sort]));
        }
        SwornCounty x = new SwornCounty();
        for (int k = -1; k <= 3; k++) C.due("1 no images", false, x.again(k));
        C.due("1 the tape is empty", 0, x.end(0));
        C.due("1 the tape is empty", NONE, x.end(1));
        C.due("1 no FAULT", 0, x.fault(0));
        C.due("1 no place", NONE, x.fault(1));
    }

    // ---- Promises 2 and 3

    private static void feedUpTo600() {
        for (int left = 0; left <= 40; left++) {
            SwornCounty x = new SwornCounty();
            for (int i = 1; i <= 30; i++) C.due("2 how many it has", 20 * i, x.feed(0, 0, 0, 0, 0));
            int has = 600 - left;
            C.due("2 before", has, x.end(has));
            int due = left < 20 ? NONE : has + 20;
            C.due("2 more than 600: NONE, with " + has, due, x.feed(1, 1, 1, 1, 1));
            int then = left < 20 ? has : has + 20;
            C.due("2 nothing comes then", NONE, x.end(then + 1));
            C.due("2 all stays then", then, x.end(then));
        }
    }

    private static void feedByteByByte() {
        for (int place = 0; place < 40; place++) {
            for (int b : new int[] {0, 1, 127, 128, 255}) {
                int[] n = new int[10];
                for (int i = 0; i < 40; i++) n[i / 4] = n[i / 4] << 8 | (i == place ? b : ' ');
                SwornCounty x = new SwornCounty();
                C.due("2 twenty bytes", 20, x.feed(n[0], n[1], n[2], n[3], n[4]));
                C.due("2 come behind it", 40, x.feed(n[5], n[6], n[7], n[8], n[9]));
                C.due("2 no token", NONE, x.text(1, NONE));
                C.due("2 of each number the highest first: byte " + place, place, x.fault(1));
            }
        }
    }

    private static void endOfTheTape() {
        for (int has = 0; has <= 600; has += 20) {
            SwornCounty x = new SwornCounty();
            for (int i = 0; i < has / 20; i++) x.feed(0, 0, 0, 0, 0);
            C.due("3 n is below 0", NONE, x.end(-1));
            C.due("3 it has not so many", NONE, x.end(has + 1));
            C.due("3 all", has, x.end(has));
            for (int far : Checks.FAR) C.due("3 far", NONE, x.end(far));
            C.due("3 all is left then", has, x.end(has));
            if (has == 0) continue;
            C.due("3 all but one", has - 1, x.end(has - 1));
            C.due("3 its first n alone", NONE, x.end(has));
            C.due("3 none", 0, x.end(0));
            C.due("3 none is left", NONE, x.end(1));
        }
        // What comes then stands behind the first n.
        SwornCounty x = new SwornCounty();
        Checks.feed(x, "monday;monday;tire 0;");
        C.due("3 the first 7", 7, x.end(7));
        Checks.feed(x, "rest 5;");
        C.due("3 text", 0, x.text(1, NONE));
        C.due("3 two lines", 2, x.deed(0, NONE, 0));
        C.due("3 the second", 2, x.deed(0, 1, 0));
    }

    /** "its first n bytes alone": no token goes on with a byte that stood behind them. */
    private static void bytesBehindTheEnd() {
        String[] tapes = {"tire 05;", "tire 000", "tire 0;;", "mondays;", "monday;;", "monday ;", "tire 5\n;", "monday;monday;"};
        for (String tape : tapes) {
            for (int n = 0; n <= tape.length(); n++) {
                SwornCounty x = new SwornCounty();
                SwornCounty alone = new SwornCounty();
                Checks.feed(x, tape);
                x.end(n);
                C.due("3 alone " + n + " [" + tape + "]", Checks.tell(alone, 1, NONE, tape.substring(0, n)), x.text(1, NONE));
                C.due("3 alone " + n + " [" + tape + "] FAULT", alone.fault(0), x.fault(0));
                C.due("3 alone " + n + " [" + tape + "] place", alone.fault(1), x.fault(1));
            }
        }
        SwornCounty x = new SwornCounty();
        Checks.feed(x, "tire 05;");
        x.end(6);
        C.due("3 the second digit is away", NONE, x.text(1, NONE));
        C.due("3 the end's place", 6, x.fault(1));
    }

    private static void tapeOf600Bytes() {
        faultIs("1 a NUMBER at the tape's end", 1, Checks.times(" ", 594) + "tire 0", 1, 600);
        faultIs("1 two digits at the tape's end", 1, Checks.times(" ", 593) + "tire 00", 1, 600);
        taken("1 600 blanks", 1, Checks.times(" ", 600));
        taken("1 a line at the tape's end", 1, Checks.times(" ", 593) + "monday;");
        faultIs("1 the last byte", 1, Checks.times(" ", 599) + "#", 1, 599);
        faultIs("1 the end's place", 1, Checks.times(" ", 594) + "monday", 1, 600);
        faultIs("1 many lines", 1, Checks.times("tire0;", 100), 3, 240);
        faultIs("1 FAULT 4 at 600", 0, "likes 0 1;" + Checks.times("\n", 590), 4, 600);
    }

    // ---- Promise 4

    private static void textsAtMostTwo() {
        for (int sort = 0; sort < 4; sort++) {
            SwornCounty x = new SwornCounty();
            int[][] calls = {{1, -2, 0}, {0, -2, 0}, {NONE, 0, 1}, {1, -2, 1}, {-2, -2, 1}, {0, 0, 1}, {NONE, 1, 2},
                {NONE, -2, 2}, {2, -2, 2}, {3, -2, 2}, {1, 1, 2}, {0, 0, 2}, {-2, -2, 2}, {NONE, -2, 2}};
            for (int[] c : calls) {
                String call = "4 text(" + sort + ", " + c[0] + ")";
                C.due(call, c[1], Checks.tell(x, sort, c[0], GOOD[sort]));
                C.due(call + " FAULT", 0, x.fault(0));
                C.due(call + " its place", NONE, x.fault(1));
                C.due(call + " count", c[2], x.count(sort));
                C.due(call + " the tape is empty", NONE, x.end(1));
            }
            for (int far : Checks.FAR) C.due("4 far " + far, -2, Checks.tell(x, sort, far, GOOD[sort]));
            for (int other = 0; other < 4; other++) C.due("4 other sorts", other == sort ? 2 : 0, x.count(other));
        }
    }

    private static void textOfNoSuchSort() {
        int[] sorts = {-2, -1, 4, 5, Integer.MIN_VALUE, Integer.MAX_VALUE};
        for (int sort : sorts) {
            for (int at = -2; at <= 2; at++) {
                SwornCounty x = Checks.with("folk 1 1;", "monday;", "want 0 0;", "kept 0 0;");
                C.due("4 no such sort", -2, Checks.tell(x, sort, at, "monday;"));
                for (int s = 0; s < 4; s++) C.due("4 none came", 1, x.count(s));
                C.due("4 no such sort, taken", NONE, x.end(1));
            }
        }
    }

    /** "no text is read then, FAULT 0": neither one that is right nor one that is wrong, whatever the FAULT was. */
    private static void textInNoPlace() {
        String[] tapes = {"", "monday;", "monday", "tire 9;", Checks.times("monday;", 41), "#"};
        for (String tape : tapes) {
            SwornCounty x = Checks.with(null, "monday;monday;", null, null);
            C.due("4 a FAULT before", NONE, Checks.tell(x, 1, NONE, "tire 6;"));
            C.due("4 FAULT 2", 2, x.fault(0));
            C.due("4 there is none such", -2, Checks.tell(x, 1, 1, tape));
            C.due("4 FAULT 0", 0, x.fault(0));
            C.due("4 no place", NONE, x.fault(1));
            C.due("4 empty", NONE, x.end(1));
            C.due("4 one TERM", 1, x.count(1));
            C.due("4 as it was", 2, x.deed(0, NONE, 0));
        }
    }

    private static void textWithFault() {
        for (int sort = 0; sort < 4; sort++) {
            SwornCounty x = new SwornCounty();
            C.due("4 NONE: a FAULT", NONE, Checks.tell(x, sort, NONE, GOOD[sort] + "x"));
            C.due("4 none came", 0, x.count(sort));
            C.due("4 none came", -2, Checks.tell(x, sort, 0, GOOD[sort]));
            Checks.tell(x, sort, NONE, GOOD[sort]);
            C.due("4 a FAULT in one's place", NONE, Checks.tell(x, sort, 0, GOOD[sort] + GOOD[sort] + "x"));
            C.due("4 it stays", 1, x.count(sort));
            C.due("4 its place", 2 * GOOD[sort].length(), x.fault(1));
            C.due("4 the latest has none", 1, Checks.tell(x, sort, NONE, GOOD[sort]));
            C.due("4 FAULT 0", 0, x.fault(0));
            C.due("4 no place", NONE, x.fault(1));
        }
        SwornCounty x = Checks.with("folk 1 2;", "monday;", "want 3 4;", "kept 5 6;");
        for (int sort = 0; sort < 4; sort++) C.due("4 a FAULT", NONE, Checks.tell(x, sort, 0, ";"));
        C.due("4 as it was", 2, x.county(0, 20));
        C.due("4 as it was", 1, x.deed(0, NONE, 0));
        C.due("4 as it was", 4, x.want(0, 0, 1));
        C.due("4 as it was", 6, x.fact(0, 0, 2));
    }

    // ---- Promise 5

    private static void faultWhat() {
        SwornCounty x = new SwornCounty();
        Checks.tell(x, 1, NONE, "tire 6;");
        C.due("5 the FAULT", 2, x.fault(0));
        C.due("5 its place", 5, x.fault(1));
        SwornCounty with = x;
        C.outside(0, 1, "5 NONE for another what", NONE, what -> with.fault(what));
        SwornCounty without = Checks.with("");
        C.due("5 0 without", 0, without.fault(0));
        C.due("5 NONE without", NONE, without.fault(1));
        C.outside(0, 1, "5 NONE for another what", NONE, what -> without.fault(what));
        // A place of 0 is one.
        faultIs("5 place 0", 1, "#", 1, 0);
        // Only text() changes it.
        Checks.feed(x, "monday;");
        x.end(3);
        x.image(0);
        C.due("5 of the latest text()", 2, x.fault(0));
        C.due("5 of the latest text()", 5, x.fault(1));
    }

    // ---- tokens

    private static void blanksAreTwoBytes() {
        for (int b = 0; b < 256; b++) {
            char c = (char) b;
            String text = "monday" + c + ";";
            if (b == 10 || b == 32) taken("1 blanks (10, 32)", 1, text);
            else if (c >= 'a' && c <= 'z') faultIs("1 a longer word", 1, text, 1, 0);
            else faultIs("1 byte " + b + " between", 1, text, 1, c == ';' ? 7 : 6);
        }
    }

    private static void noByteAlone() {
        for (int b = 0; b < 256; b++) {
            for (int sort = 0; sort < 4; sort++) {
                if (b == 10 || b == 32) taken("1 a blank alone", sort, "" + (char) b);
                else faultIs("1 byte " + b + " alone", sort, "" + (char) b, 1, 0);
            }
        }
    }

    private static void bytesOfNumbers() {
        for (int b = 0; b < 256; b++) {
            char c = (char) b;
            String text = "tire " + c + ";";
            if (c >= '0' && c <= '5') taken("1 a NUMBER", 1, text);
            else if (c >= '6' && c <= '9') faultIs("1 a NUMBER that can't be", 1, text, 2, 5);
            else faultIs("1 no NUMBER, byte " + b, 1, text, 1, b == 10 || b == 32 ? 6 : 5);
        }
    }

    private static void rowsOfDigits() {
        taken("1 one digit", 1, "tire 5;");
        taken("1 two digits", 1, "tire 05;");
        faultIs("1 a longer row", 1, "tire 005;", 1, 5);
        faultIs("1 a much longer row", 1, "tire 0000000000000;", 1, 5);
        faultIs("1 the greatest", 1, "tire 99;", 2, 5);
        faultIs("1 one more", 1, "tire 100;", 1, 5);
        faultIs("1 as long as it goes", 1, "swear 010;", 1, 6);
        faultIs("1 two digits are one NUMBER", 1, "visit 01;", 1, 8);
        taken("1 with a blank two", 1, "visit 0 1;");
        taken("1 with a line's end two", 1, "visit 0\n1;");
        faultIs("1 as the second", 0, "folk 1 001;", 1, 7);
        faultIs("1 as the third", 1, "swear 0 1 000;", 1, 10);
        faultIs("1 for a word", 1, "000;", 1, 0);
        faultIs("1 for a ;", 1, "tire 0 000", 1, 7);
        faultIs("1 at the end", 1, "tire 000", 1, 5);
        SwornCounty x = Checks.with("folk 09 04;");
        C.due("1 two digits tell", 9, x.county(0, 10));
        C.due("1 two digits tell", 4, x.county(0, 20));
    }

    private static void wordsOfSorts() {
        for (Kind k : KINDS) {
            for (int sort = 0; sort < 4; sort++) {
                if (sort == k.sort()) taken("1 its text", sort, k.before() + k.good());
                else faultIs("1 not in a text of sort " + sort, sort, k.good(), 1, 0);
            }
        }
    }

    private static void wordsNotQuite() {
        for (Kind k : KINDS) {
            String rest = k.good().substring(k.word().length());
            String word = k.word();
            int last = word.length() - 1;
            faultIs("1 a letter less", k.sort(), word.substring(0, last) + rest, 1, 0);
            faultIs("1 a letter less", k.sort(), word.substring(1) + rest, 1, 0);
            faultIs("1 a letter more", k.sort(), word + "s" + rest, 1, 0);
            faultIs("1 a letter more", k.sort(), "a" + word + rest, 1, 0);
            faultIs("1 twice", k.sort(), word + word + rest, 1, 0);
            faultIs("1 no small letter", k.sort(), Character.toUpperCase(word.charAt(0)) + word.substring(1) + rest, 1, 0);
            faultIs("1 no small letter", k.sort(), word.substring(0, last) + Character.toUpperCase(word.charAt(last)) + rest, 1, 0);
            for (int i = 0; i <= last; i++) {
                char other = word.charAt(i) == 'z' ? 'y' : (char) (word.charAt(i) + 1);
                faultIs("1 another letter", k.sort(), word.substring(0, i) + other + word.substring(i + 1) + rest, 1, 0);
                if (i > 0) faultIs("1 parted", k.sort(), word.substring(0, i) + " " + word.substring(i) + rest, 1, 0);
            }
        }
        faultIs("1 the byte before a", 1, "monday`;", 1, 6);
        faultIs("1 the byte behind z", 1, "monday{;", 1, 6);
        faultIs("1 the byte before 0", 1, "tire /;", 1, 5);
        faultIs("1 the byte behind 9", 1, "tire :;", 1, 5);
    }

    private static void tokensAsLongAsTheyGo() {
        for (Kind k : KINDS) {
            // Blanks may be left out but between NUMBERS, and there may be more of them.
            String tight = k.most().length == 0 ? k.good() : k.good().replaceFirst(" ", "");
            taken("1 no blank needed", k.sort(), k.before() + tight);
            taken("1 more blanks", k.sort(), "\n " + k.before() + k.good().replace(" ", " \n\n ").replace(";", "\n;") + " \n");
            faultIs("1 ; is one byte", k.sort(), k.before() + k.good() + ";", 1, (k.before() + k.good()).length());
            faultIs("1 ; twice", k.sort(), k.before() + k.good() + " ;", 1, (k.before() + k.good()).length() + 1);
        }
        taken("1 line by line", 1, "monday;tire0;rest1;visit2 3;court3 4;cut4 5;swear5 0 7;monday;");
    }

    private static void numbersTooFewOrMany() {
        for (Kind k : KINDS) {
            String good = k.before() + k.good();
            int end = good.length() - 1;
            faultIs("1 a NUMBER more", k.sort(), good.substring(0, end) + " 0;", 1, end + 1);
            faultIs("1 a word more", k.sort(), good.substring(0, end) + " x;", 1, end + 1);
            faultIs("1 a byte more", k.sort(), good.substring(0, end) + "-;", 1, end);
            for (int many = 0; many < k.most().length; many++) {
                String few = k.before() + k.word() + " 0 1 0".substring(0, 2 * many);
                faultIs("1 " + many + " NUMBERS", k.sort(), few + ";", 1, few.length());
                faultIs("1 " + many + " NUMBERS, then a word", k.sort(), few + " x;", 1, few.length() + 1);
            }
        }
    }

    private static void linesCutOff() {
        for (Kind k : KINDS) {
            String good = k.before() + k.good();
            int from = k.before().length();
            for (int cut = from + 1; cut < good.length(); cut++) {
                boolean inWord = cut < from + k.word().length();
                String text = good.substring(0, cut);
                faultIs("1 cut off", k.sort(), text, 1, inWord ? from : cut);
                faultIs("1 cut off, then blanks", k.sort(), text + " \n", 1, inWord ? from : cut + 2);
            }
            taken("1 cut off before", k.sort(), good.substring(0, from));
            taken("1 not cut off", k.sort(), good);
        }
    }

    // ---- FAULTS

    private static void fault1BeforeAll() {
        faultIs("1 before FAULT 2", 1, "tire 6;#", 1, 7);
        faultIs("1 before FAULT 2 of its line", 1, "tire 6", 1, 6);
        faultIs("1 before FAULT 3", 2, Checks.times("want 0 0;", 7) + "want 0 0", 1, 71);
        faultIs("1 before FAULT 4", 0, "likes 0 1;folk 1;", 1, 16);
        faultIs("1 the first", 1, "monday#;#", 1, 6);
        faultIs("1 the first", 1, "monday 7 #;", 1, 7);
    }

    private static void fault2EachNumber() {
        for (Kind k : KINDS) {
            for (int i = 0; i < k.most().length; i++) {
                for (int v = 0; v <= 99; v++) {
                    // The other one of two that are unlike is none of the bounds here.
                    int[] numbers = {2, 2, 2};
                    if (k.unlike()) numbers[1 - i % 2] = v == 3 ? 1 : 3;
                    numbers[i] = v;
                    if (i == 2) numbers[0] = 0;
                    String text = k.before() + k.line(numbers);
                    int place = (k.before() + k.word()).length() + 1;
                    for (int j = 0; j < i; j++) place += 2;
                    if (v <= k.most()[i]) taken("2 it can be", k.sort(), text);
                    else faultIs("2 it can't be", k.sort(), text, 2, place);
                }
            }
        }
    }

    private static void fault2Unlike() {
        for (Kind k : KINDS) {
            if (k.most().length < 2) continue;
            int most = Math.min(k.most()[0], k.most()[1]);
            int place = (k.before() + k.word()).length() + 3;
            for (int a = 0; a <= most; a++) {
                for (int b = 0; b <= most; b++) {
                    String text = k.before() + k.line(a, b, a);
                    if (k.unlike() && a == b) faultIs("2 the second, if it is the first", k.sort(), text, 2, place);
                    else taken("2 unlike, or no two of a sort", k.sort(), text);
                }
            }
            if (k.unlike()) {
                faultIs("2 the first of both", k.sort(), k.before() + k.line(8, 8, 0), 2, place - 2);
                String twoDigits = k.good().replaceFirst(" 0 1", " 01 1");
                faultIs("2 the same NUMBER", k.sort(), k.before() + twoDigits, 2, place + 1);
            }
        }
        // The third one may be the first or the second.
        taken("2 a THING like one of them", 1, "swear 1 0 1;swear 1 0 0;");
    }

    private static void fault2FirstByPlace() {
        faultIs("2 the first of a line", 0, "folk 10 5;", 2, 5);
        faultIs("2 the second of a line", 0, "folk 9 5;", 2, 7);
        faultIs("2 the first line", 0, "hard 0 10;folk 10 5;", 2, 7);
        faultIs("2 the second line", 0, "hard 0 9;folk 10 5;", 2, 14);
        faultIs("2 all three", 1, "swear 6 6 8;", 2, 6);
        faultIs("2 the last two", 1, "swear 5 6 8;", 2, 8);
        faultIs("2 the last", 1, "swear 5 4 8;", 2, 10);
    }

    private static void fault3AtMost() {
        String two = "folk 0 0;folk 0 0;";
        String[][] lines = {{"0", "", "folk 0 0;", "6"}, {"0", two, "oath 0 1 0;", "12"}, {"1", "", "monday;", "40"},
            {"2", "", "want 0 0;", "6"}, {"3", "", "kept 0 0;", "8"}, {"3", "", "broke 0 0;", "8"}};
        for (String[] l : lines) {
            int sort = Integer.parseInt(l[0]);
            int most = Integer.parseInt(l[3]);
            for (int many = 0; many <= most + 2; many++) {
                String text = l[1] + Checks.times(l[2], many);
                int place = l[1].length() + l[2].length() * most;
                if (many <= most) taken("3 " + many + " of " + l[2], sort, text);
                else faultIs("3 " + many + " of " + l[2], sort, text, 3, place);
            }
            // At its first token, wherever blanks are.
            String all = l[1] + Checks.times(l[2], most) + " \n ";
            faultIs("3 at its first token", sort, all + l[2], 3, all.length());
        }
    }

    private static void fault3OfAllKinds() {
        for (Kind k : KINDS) {
            if (k.sort() == 1) {
                String many = Checks.times("monday;", 39);
                taken("3 a 40th DEED", 1, many + k.good());
                faultIs("3 a 41st DEED", 1, many + "rest 0;" + k.good(), 3, 280);
                faultIs("3 a 41st DEED", 1, Checks.times(k.good(), 40) + "cut 0 1;", 3, 40 * k.good().length());
            }
        }
        taken("3 eight FACTS", 3, Checks.times("kept 0 0;", 7) + "broke 0 0;");
        faultIs("3 a 9th FACT", 3, Checks.times("kept 0 0;", 7) + "broke 0 0;kept 0 0;", 3, 73);
        // Of hard, clash and likes there may be any number, and they are none of the others.
        for (String line : new String[] {"hard 0 9;", "clash 0 1;", "likes 0 1;"}) {
            String many = Checks.times(line, 30);
            taken("3 any number", 0, SIX + many);
            faultIs("3 still a 7th", 0, many + SIX + "folk 0 0;", 3, many.length() + 54);
        }
        String both = SIX + Checks.times("oath 0 1 0;", 12);
        taken("3 six and twelve", 0, both);
        faultIs("3 a 7th and a 13th", 0, both + "folk 0 0;oath 0 1 0;", 3, 186);
        faultIs("3 a 13th and a 7th", 0, both + "oath 0 1 0;folk 0 0;", 3, 186);
    }

    private static void fault3AndOthers() {
        // A line with a NUMBER that can't be tells its FOLK, OATH, DEED, WANT, FACT all the same: the 7th is one.
        String oaths = "folk 0 0;folk 0 0;" + Checks.times("oath 0 1 0;", 12);
        faultIs("3 the FOLK all the same", 0, SIX + "folk 10 0;", 3, 54);
        faultIs("3 the FOLK all the same", 0, SIX + "folk 0 5;", 3, 54);
        faultIs("3 the OATH all the same", 0, oaths + "oath 6 1 0;", 3, 150);
        faultIs("3 the OATH all the same", 0, oaths + "oath 0 0 0;", 3, 150);
        faultIs("3 the DEED all the same", 1, Checks.times("monday;", 40) + "tire 6;", 3, 280);
        faultIs("3 the WANT all the same", 2, Checks.times("want 0 0;", 6) + "want 6 8;", 3, 54);
        faultIs("3 the FACT all the same", 3, Checks.times("kept 0 0;", 8) + "broke 6 8;", 3, 72);
        // The first by place.
        faultIs("3 behind a NUMBER", 0, Checks.times("folk 0 0;", 5) + "folk 0 5;folk 0 0;", 2, 52);
        faultIs("3 before a NUMBER", 0, SIX + "folk 0 0;folk 0 5;", 3, 54);
        faultIs("3 before one of another line", 0, SIX + "folk 0 0;hard 8 0;", 3, 54);
        faultIs("3 behind one of another line", 0, "hard 8 0;" + SIX + "folk 0 0;", 2, 5);
        // FAULT 4 only without these.
        faultIs("3 before FAULT 4", 0, "oath 0 1 0;" + Checks.times("oath 0 1 0;", 12), 3, 132);
        faultIs("2 before FAULT 4", 0, "likes 0 1;hard 0 10;", 2, 17);
    }

    private static void fault4NotThere() {
        for (int folk = 0; folk <= 6; folk++) {
            String before = Checks.times("folk 0 0;", folk);
            for (int a = 0; a < 6; a++) {
                for (int b = 0; b < 6; b++) {
                    if (a == b) continue;
                    boolean there = a < folk && b < folk;
                    String likes = "likes " + a + " " + b + ";";
                    String oath = "oath " + a + " " + b + " 7;";
                    for (String text : new String[] {before + likes, likes + before, before + oath, oath + before}) {
                        if (there) taken("4 both are there", 0, text);
                        else faultIs("4 one is not there", 0, text, 4, text.length());
                    }
                }
            }
            taken("4 not told of by hard, clash", 0, before + "hard 7 9;clash 6 7;");
        }
    }

    private static void fault4AtTheEnd() {
        faultIs("4 at the end's place", 0, "likes 0 1;", 4, 10);
        faultIs("4 blanks are before the end", 0, "likes 0 1; \n\n", 4, 13);
        faultIs("4 some are there", 0, "likes 0 1;folk 0 0;folk 0 0;likes 1 2;hard 0 0;", 4, 47);
        // Of a COUNTY alone.
        taken("4 not of a TERM", 1, "tire 5;rest 5;visit 4 5;court 4 5;cut 4 5;swear 4 5 7;");
        taken("4 not of WANTS", 2, "want 5 7;");
        taken("4 not of a LOG", 3, "kept 5 7;broke 5 7;");
    }

    private static void emptyTexts() {
        for (int sort = 0; sort < 4; sort++) {
            taken("4 an empty text", sort, "");
            taken("4 blanks alone", sort, " \n ");
        }
        SwornCounty x = Checks.with("", "", "", "");
        C.due("4 nobody", 0, x.county(0, 0));
        C.due("4 no OATHS", 0, x.county(0, 1));
        C.due("4 5 at first", 5, x.county(0, 40));
        C.due("4 no DEEDS", 0, x.deed(0, NONE, 0));
        C.due("4 no WANTS", 0, x.want(0, NONE, 0));
        C.due("4 no FACTS", 0, x.fact(0, NONE, 0));
    }

    // ---- Promises 24 to 26

    private static void countBounds() {
        SwornCounty x = new SwornCounty();
        C.outside(0, 3, "24 another sort", -2, sort -> x.count(sort));
        SwornCounty y = new SwornCounty();
        for (int many = 0; many <= 3; many++) {
            for (int sort = 0; sort < 4; sort++) C.due("24 how many", Math.min(many, 2), y.count(sort));
            for (int sort = 0; sort < 4; sort++) Checks.tell(y, sort, NONE, GOOD[sort]);
        }
    }

    private static void imageBounds() {
        SwornCounty x = new SwornCounty();
        for (int k = 0; k <= 2; k++) C.due("25 image " + k, true, x.image(k));
        C.outside(0, 2, "25 false for another k", 0, k -> x.image(k) ? 1 : 0);
        SwornCounty y = new SwornCounty();
        C.outside(0, 2, "25 false for another k", 0, k -> y.image(k) ? 1 : 0);
        for (int k = -1; k <= 3; k++) C.due("25 no image came", false, y.again(k));
    }

    private static void againBounds() {
        for (int made = 0; made <= 2; made++) {
            SwornCounty x = Checks.with("folk 1 1;");
            x.image(made);
            Checks.tell(x, 0, NONE, "");
            int only = made;
            C.others("26 there is none such", 0, k -> k == only, k -> x.again(k) ? 1 : 0);
            C.due("26 nothing is changed then", 2, x.count(0));
            C.due("26 again", true, x.again(made));
            C.due("26 as the image has it", 1, x.count(0));
            C.due("26 again and again", true, x.again(made));
        }
    }

    private static void imageHasAll() {
        SwornCounty x = Checks.with("folk 1 1;", "monday;", "want 0 0;", "kept 0 0;");
        x.image(0);
        for (int sort = 0; sort < 4; sort++) {
            Checks.tell(x, sort, 0, "");
            Checks.tell(x, sort, NONE, GOOD[sort]);
        }
        for (int i = 0; i < 30; i++) x.feed(-1, -1, -1, -1, -1);
        x.image(1);
        Checks.tell(x, 1, NONE, "");
        Checks.tell(x, 1, 0, "tire 6;");
        Checks.feed(x, "monday;");
        x.image(2);
        C.due("26 the full tape", true, x.again(1));
        C.due("26 600 bytes", NONE, x.feed(0, 0, 0, 0, 0));
        C.due("26 600 bytes", 600, x.end(600));
        C.due("26 FAULT 0", 0, x.fault(0));
        for (int sort = 0; sort < 4; sort++) C.due("26 two of each", 2, x.count(sort));
        C.due("26 the empty one", 0, x.county(0, 0));
        C.due("26 the FAULT", true, x.again(2));
        C.due("26 FAULT 2", 2, x.fault(0));
        C.due("26 its place", 5, x.fault(1));
        C.due("26 the tape", NONE, x.end(8));
        C.due("26 the tape is read", 1, x.text(1, 1));
        C.due("26 the tape is read", 1, x.deed(1, NONE, 0));
        C.due("26 the empty tape", true, x.again(0));
        C.due("26 no byte", NONE, x.end(1));
        for (int sort = 0; sort < 4; sort++) C.due("26 one of each", 1, x.count(sort));
        C.due("26 FOLK", 1, x.county(0, 0));
        C.due("26 a DEED", 1, x.deed(0, NONE, 0));
        C.due("26 a WANT", 1, x.want(0, NONE, 0));
        C.due("26 a FACT", 1, x.fact(0, NONE, 0));
        C.due("26 the second is not there", NONE, x.county(1, 0));
        C.due("26 the second is not there", -2, x.deed(1, NONE, 0));
        C.due("26 a further one", 1, Checks.tell(x, 0, NONE, "folk 2 2;"));
        // An image that was made anew is the newer one; the others stay.
        C.due("25 anew", true, x.image(0));
        C.due("26 the other", true, x.again(1));
        C.due("26 the newer", true, x.again(0));
        C.due("26 the newer", 2, x.county(1, 10));
        // A new object's image: nothing is told.
        SwornCounty y = new SwornCounty();
        y.image(2);
        Checks.tell(y, 3, NONE, "broke 1 1;");
        C.due("26 as new", true, y.again(2));
        C.due("26 as new", 0, y.count(3));
        C.due("26 as new", -2, y.fact(0, NONE, 0));
    }

    /** Bytes and places, too, are as they were, whatever came then. */
    private static void imageOfTapeAndFault() {
        SwornCounty x = new SwornCounty();
        Checks.tell(x, 1, NONE, "tire 6;");
        Checks.feed(x, "monday;tire 5;");
        x.image(0);
        Checks.tell(x, 1, NONE, "monday;monday;#");
        Checks.feed(x, Checks.times("swear 0 1 0;", 50));
        x.image(1);
        Checks.tell(x, 1, NONE, "rest 0;rest 1;");
        for (int i = 0; i < 2; i++) {
            C.due("26 again 0", true, x.again(0));
            C.due("26 its FAULT", 2, x.fault(0));
            C.due("26 its place", 5, x.fault(1));
            C.due("26 its tape", 0, x.text(1, NONE));
            C.due("26 its DEEDS", 2, x.deed(0, NONE, 0));
            C.due("26 its DEEDS", 1, x.deed(0, 1, 0));
            C.due("26 its DEEDS", 5, x.deed(0, 1, 1));
            C.due("26 again 1", true, x.again(1));
            C.due("26 its FAULT", 1, x.fault(0));
            C.due("26 its place", 14, x.fault(1));
            C.due("26 its tape", 480, x.end(480));
            C.due("26 its tape", 0, x.text(1, NONE));
            C.due("26 its DEEDS", 40, x.deed(0, NONE, 0));
        }
    }
}
