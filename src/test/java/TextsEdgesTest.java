import java.util.NoSuchElementException;

/** Promises 6 to 9 (feed, rules, law, fault): a test for each sentence that names an edge. */
public final class TextsEdgesTest {
    private static final Class<?> ARGUMENT = IllegalArgumentException.class;
    private static final Class<?> ELEMENT = NoSuchElementException.class;
    private static final int BLANKS = 0x20202020;

    private static final Checks c = new Checks();
    private static final Twins twins = new Twins(c);

    public static void main(String[] args) {
        tapeOf400();
        highestByteFirst();
        rulesTakeFirstBytes();
        rulesBytes();
        rulesOfNoStation();
        lawTakesFirstBytes();
        lawBytes();
        textOf400();
        emptyTexts();
        emptyAtFirst();
        faultyTexts();
        twelveRules();
        numbersOfRules();
        numbersOfTerms();
        numbersOfLaw();
        laterOnesStrike();
        linesWithoutBound();
        blanksBetween();
        everyByte();
        asLongAsTheyGo();
        threeDigits();
        whereTokensStand();
        theEnd();
        fourNots();
        theFirstAlong();
        theLeastKind();
        faultAsked();
        faultStays();
        c.end();
    }

    // ---- Promise 6

    private static PumpCrossing fed(PumpCrossing x, int times) {
        for (int k = 0; k < times; k++) {
            x.feed(0x6b656570, 0x3b202020, BLANKS, BLANKS, BLANKS);
        }
        return x;
    }

    /** "how many it has; NONE, and nothing changes, if there would be more than 400". */
    private static void tapeOf400() {
        PumpCrossing x = new PumpCrossing();
        x.station(40, 60, 0);
        for (int k = 1; k <= 20; k++) {
            c.due("bytes fed", x.feed(BLANKS, BLANKS, BLANKS, BLANKS, BLANKS), 20 * k);
            c.due("bytes there", x.count(8), 20 * k);
        }
        twins.unmoved("bytes 401 to 420", -1, () -> fed(new PumpCrossing(), 20), y -> y.feed(1, 2, 3, 4, 5));
        twins.unmoved("on a full tape", -1, Twins::full, y -> y.feed(1, 2, 3, 4, 5));
        c.due("read", x.rules(0, 400), 0);
        c.due("room again", x.feed(BLANKS, BLANKS, BLANKS, BLANKS, BLANKS), 20);
    }

    /** "Twenty bytes come behind those on the tape, the highest of each int first". */
    private static void highestByteFirst() {
        for (int at = 0; at < 40; at++) {
            int[] ints = new int[10];
            for (int k = 0; k < 40; k++) {
                ints[k / 4] = ints[k / 4] << 8 | (k == at ? 0xff : 0x20);
            }
            PumpCrossing x = new PumpCrossing();
            x.feed(ints[0], ints[1], ints[2], ints[3], ints[4]);
            x.feed(ints[5], ints[6], ints[7], ints[8], ints[9]);
            x.law(40);
            c.due("place of byte " + at, x.fault(1), at);
        }
    }

    // ---- Promise 7

    /** "The first n bytes of the tape (which is empty then) are RULES": byte n - 1 counts, byte n doesn't. */
    private static void rulesTakeFirstBytes() {
        String text = "to 5;to 6;?";
        int[][] due = {{0, 0, 60}, {4, -12, 60}, {5, 1, 5}, {9, -12, 60}, {10, 2, 5}, {11, -11, 60}};
        for (int[] d : due) {
            PumpCrossing x = withStation();
            Checks.feed(x, text);
            c.due("first " + d[0], x.rules(0, d[0]), d[1]);
            c.due("would by first " + d[0], x.would(0), d[2]);
            c.due("empty then", x.count(8), 0);
        }
    }

    /** "IllegalArgumentException: n is below 0 or above what it has". */
    private static void rulesBytes() {
        twins.bounds("rules of 40 bytes", ARGUMENT, Twins::running, 0, 40, (x, v) -> x.rules(1, v));
        twins.bounds("rules of 400 bytes", ARGUMENT, Twins::full, 0, 400, (x, v) -> x.rules(1, v));
        twins.bounds("rules of no bytes", ARGUMENT, TextsEdgesTest::withStation, 0, 0, (x, v) -> x.rules(0, v));
    }

    /** "no such STATION (as everywhere)", told ahead of the number. */
    private static void rulesOfNoStation() {
        twins.bounds("rules of", ELEMENT, Twins::running, 0, 1, (x, v) -> x.rules(v, 18));
        twins.bounds("rules of four", ELEMENT, Twins::full, 0, 3, (x, v) -> x.rules(v, 18));
        twins.refused("rules of none", ELEMENT, PumpCrossing::new, x -> x.rules(0, 0));
        twins.refused("no station, n below 0", ELEMENT, Twins::running, x -> x.rules(2, -1));
        twins.refused("no station, n above", ELEMENT, Twins::running, x -> x.rules(-1, 41));
    }

    // ---- Promise 8

    /** "The same are THE LAW": byte n - 1 counts, byte n doesn't, and the tape is empty then. */
    private static void lawTakesFirstBytes() {
        String text = "cap 5;cap 6;?";
        int[][] due = {{0, 0, 69}, {5, -12, 69}, {6, 1, 65}, {11, -12, 69}, {12, 2, 66}, {13, -11, 69}};
        for (int[] d : due) {
            PumpCrossing x = withStation();
            Checks.rules(x, 0, "up 9;");
            Checks.feed(x, text);
            c.due("law of the first " + d[0], x.law(d[0]), d[1]);
            c.due("would by the law's first " + d[0], x.would(0), d[2]);
            c.due("empty then", x.count(8), 0);
        }
    }

    /** "IllegalArgumentException: n is below 0 or above what it has", for law(), too. */
    private static void lawBytes() {
        twins.bounds("law of 40 bytes", ARGUMENT, Twins::running, 0, 40, (x, v) -> x.law(v));
        twins.bounds("law of 400 bytes", ARGUMENT, Twins::full, 0, 400, (x, v) -> x.law(v));
        twins.bounds("law of no bytes", ARGUMENT, PumpCrossing::new, 0, 0, (x, v) -> x.law(v));
    }

    // ---- texts

    private static PumpCrossing withStation() {
        PumpCrossing x = new PumpCrossing();
        x.station(40, 60, 0);
        return x;
    }

    /** Reads rules, sees the answer, the fault and its place, and answers what the price would be. */
    private static int rules(String text, int want, int place) {
        PumpCrossing x = withStation();
        c.due("rules '" + text + "'", Checks.rules(x, 0, text), want);
        c.due("fault of '" + text + "'", x.fault(0), want < 0 ? -10 - want : 0);
        c.due("place of '" + text + "'", x.fault(1), place);
        return x.would(0);
    }

    /** Reads the law, sees the answer, the fault and its place. */
    private static PumpCrossing law(String text, int want, int place) {
        PumpCrossing x = withStation();
        c.due("law '" + text + "'", Checks.law(x, text), want);
        c.due("fault of '" + text + "'", x.fault(0), want < 0 ? -10 - want : 0);
        c.due("place of '" + text + "'", x.fault(1), place);
        return x;
    }

    /** "a TEXT of at most 400 bytes": its last byte counts. */
    private static void textOf400() {
        String sum = "to 9 when own=60" + "+0".repeat(191);
        c.due("399 and one", sum.length(), 398);
        c.due("400 bytes", rules(sum + " ;", 1, -1), 9);
        c.due("no end at 400", rules(sum + "+0", -12, 400), 60);
        c.due("a wrong one at 399", rules(sum + " ?", -11, 399), 60);
        c.due("400 tokens", rules("to9when" + "1<2and".repeat(65) + "3;;", -12, 398), 60);
        c.due("a word cut off at 400", rules(" ".repeat(399) + "u", -12, 399), 60);
        c.due("a number cut off at 400", rules(" ".repeat(395) + "to 99", -12, 400), 60);
        law(" ".repeat(397) + "tol", -12, 397);
        law("told;".repeat(80), 80, -1);
        law("told;".repeat(79) + "told ", -12, 400);
        law("told;".repeat(79) + "told?", -11, 399);
    }

    /** "{ RULE ; }", "{ LINE ; }": there may be none, with or without blanks. */
    private static void emptyTexts() {
        String[] empty = {"", " ", "\n", " \n ", " ".repeat(400)};
        for (String text : empty) {
            PumpCrossing x = withStation();
            Checks.rules(x, 0, "to 9;");
            c.due("no rules", Checks.rules(x, 0, text), 0);
            c.due("keeps by no rules", x.would(0), 60);
            Checks.rules(x, 0, "up 9;");
            Checks.law(x, "cap 1;");
            c.due("no lines", Checks.law(x, text), 0);
            c.due("no cap by no lines", x.would(0), 69);
        }
    }

    /** "(empty at first)", "(Empty at first: nothing of these.)". */
    private static void emptyAtFirst() {
        PumpCrossing x = new PumpCrossing();
        x.station(90, 60, 0);
        x.station(90, 50, 0);
        x.driver(1, 0, 0, 0);
        c.due("no rules: keeps", x.would(0), 60);
        c.due("no told", x.fills(0), 0);
        Checks.rules(x, 0, "to 99 when own<50;to 1;");
        x.run(24);
        for (int t = 0; t < 24; t++) {
            c.due("no cap, cost, at or once, hour " + t, x.board(0, t), t % 2 == 0 ? 1 : 99);
        }
    }

    /** "-10 less the FAULT", and the tape is empty; RULES and THE LAW are what they were. */
    private static void faultyTexts() {
        String[] texts = {"?", "go;", "at 24;", "keep;".repeat(13)};
        for (int kind = 1; kind <= 4; kind++) {
            PumpCrossing x = withStation();
            Checks.rules(x, 0, "up 9;");
            Checks.law(x, "cap 5;");
            Checks.feed(x, texts[kind - 1]);
            int got = kind == 3 ? x.law(6) : x.rules(0, texts[kind - 1].length());
            c.due("fault " + kind, got, -10 - kind);
            c.due("kind " + kind, x.fault(0), kind);
            c.due("the tape behind fault " + kind, x.count(8), 0);
            c.due("rules and law behind fault " + kind, x.would(0), 65);
        }
    }

    /** "At most 12 RULES"; "4 the first TOKEN of a 13th RULE". */
    private static void twelveRules() {
        String no = "to 1 when 1=2;";
        c.due("the 12th counts", rules(no.repeat(11) + "to 7;", 12, -1), 7);
        c.due("a 13th", rules(no.repeat(12) + "to 7;", -14, 12 * no.length()), 60);
        rules("keep;".repeat(12) + " \n keep;", -14, 63);
        rules("keep;".repeat(12) + "   ", 12, -1);
        rules("keep;".repeat(80), -14, 60);
    }

    /** "(N 0 to 99.)" behind up, down, to, below. */
    private static void numbersOfRules() {
        String[] deeds = {"up", "down", "to", "below"};
        int[][] due = {{60, 69, 99}, {60, 51, 0}, {0, 9, 99}, {60, 51, 0}};
        for (int k = 0; k < 4; k++) {
            c.due(deeds[k], rules(deeds[k] + " 0;", 1, -1), due[k][0]);
            c.due(deeds[k], rules(deeds[k] + " 00;", 1, -1), due[k][0]);
            c.due(deeds[k], rules(deeds[k] + " 09;", 1, -1), due[k][1]);
            c.due(deeds[k], rules(deeds[k] + " 99;", 1, -1), due[k][2]);
            rules(deeds[k] + " 100;", -11, deeds[k].length() + 1);
            rules(deeds[k] + " -1;", -12, deeds[k].length() + 1);
        }
    }

    /** "(N 0 to 99.)" in E. */
    private static void numbersOfTerms() {
        c.due("0 and 99", rules("to 9 when 99-0=99 and 0<1 and 00=0;", 1, -1), 9);
        c.due("each adds once", rules("to 9 when 5+7+1=13 and 13-5-7=1;", 1, -1), 9);
        c.due("a sign holds for one sum", rules("to 9 when 1=2-1 and 2=2 and 5-1=4;", 1, -1), 9);
        c.due("sums go beyond", rules("to 9 when 99+99>99+98 and 0-99<0-98;", 1, -1), 9);
        rules("to 9 when 100=1;", -11, 10);
        rules("to 9 when 1=100;", -11, 12);
        rules("to 9 when 1=1+100;", -11, 14);
        rules("to 9 when 1=-1;", -12, 12);
    }

    /** "(once 1 to 99; at 0 to 23; cap 0 to 99.)"; "3 N is out of its bounds". */
    private static void numbersOfLaw() {
        law("once 1;", 1, -1);
        law("once 99;", 1, -1);
        law("once 0;", -13, 5);
        law("once 00;", -13, 5);
        law("once 100;", -11, 5);
        law("at 0;", 1, -1);
        law("at 00;", 1, -1);
        law("at 23;", 1, -1);
        law("at 24;", -13, 3);
        law("at 99;", -13, 3);
        law("at 100;", -11, 3);
        law("cap 0;", 1, -1);
        law("cap 99;", 1, -1);
        law("cap 100;", -11, 4);
        law("once -1;", -12, 5);
        law("at -1;", -12, 3);
        law("cap -1;", -12, 4);
    }

    private static int would(String rules, String law) {
        PumpCrossing x = withStation();
        Checks.rules(x, 0, rules);
        c.due("a law", Checks.law(x, law) > 0, true);
        return x.would(0);
    }

    /** "Later ones strike; of at all are told": in hour 0, since 1. */
    private static void laterOnesStrike() {
        c.due("the later cap", would("up 9;", "cap 0;cap 4;"), 64);
        c.due("the later cap", would("up 9;", "cap 4;cap 0;"), 60);
        c.due("the later once", would("up 9;", "once 2;once 1;"), 69);
        c.due("the later once", would("up 9;", "once 1;once 2;"), 60);
        c.due("at of all", would("up 9;", "at 0;at 23;"), 69);
        c.due("at of all", would("up 9;", "at 23;at 0;"), 69);
        c.due("at of none", would("up 9;", "at 23;at 1;"), 60);
        c.due("cost stays", would("to 1;", "cost;told;cap 3;once 1;at 0;"), 40);
    }

    /** THE LAW has no bound but its bytes: a 13th LINE is fine. */
    private static void linesWithoutBound() {
        law("cap 1;".repeat(12), 12, -1);
        law("cap 1;".repeat(13), 13, -1);
        c.due("the 13th line strikes", would("up 9;", "cap 1;".repeat(12) + "cap 2;"), 62);
    }

    /** "between them blanks (10, 32)", as many as there are, or none where tokens end by themselves. */
    private static void blanksBetween() {
        c.due("many", rules("\n\n to \n 9 \n\nwhen\nown = \n60 \n;\n ", 1, -1), 9);
        c.due("none", rules("to9when1=1and2<3or4>5;", 1, -1), 9);
        int[] others = {0, 9, 11, 13, 31, 33, 127, 128, 160, 255};
        for (int sign : others) {
            rules("to" + (char) sign + "9;", -11, 2);
            law("cap" + (char) sign + "9;", -11, 3);
        }
    }

    /** "words (small letters), N (1 or 2 digits), the signs ; < = > + -"; "1 no TOKEN begins so". */
    private static void everyByte() {
        for (int sign = 0; sign < 256; sign++) {
            boolean blank = sign == 10 || sign == 32;
            boolean token = sign >= 'a' && sign <= 'z' || sign >= '0' && sign <= '9' || ";<=>+-".indexOf(sign) >= 0;
            int want = blank ? 0 : token ? -12 : -11;
            rules("" + (char) sign, want, want == 0 ? -1 : 0);
            law("" + (char) sign, want, want == 0 ? -1 : 0);
            rules(" keep;" + (char) sign, want == 0 ? 1 : want, want == 0 ? -1 : 6);
        }
    }

    /** "TOKENS of both, as long as they go". */
    private static void asLongAsTheyGo() {
        rules("upp 5;", -12, 0);
        rules("keepkeep;", -12, 0);
        rules("u p 5;", -12, 0);
        rules("keep when ownown=1;", -12, 10);
        c.due("a word ends at a digit", rules("to5;", 1, -1), 5);
        c.due("digits end at a letter", rules("to 5when 1=1;", 1, -1), 5);
        rules("to 5 5;", -12, 5);
        law("toldtold;", -12, 0);
        law("cap5;", 1, -1);
    }

    /** "(3 digits and more: at their first)". */
    private static void threeDigits() {
        rules("to 12;", 1, -1);
        rules("to 123;", -11, 3);
        rules("to 000;", -11, 3);
        rules("to 1234567890123456789012345;", -11, 3);
        rules("9".repeat(400), -11, 0);
        rules("99", -12, 0);
        law("cap 012;", -11, 4);
    }

    /** "2 it can't stand there": each token in a place where it can't. */
    private static void whereTokensStand() {
        String[] afterDo = {"up", "5", "own", "or", "and", "not", "<", "+", "-"};
        for (String token : afterDo) {
            rules("keep " + token + ";", -12, 5);
            rules("up 5 " + token + ";", -12, 5);
        }
        String[] noTerm = {"up", "when", "or", "and", "once", "told", "<", "+", "-", ";"};
        for (String token : noTerm) {
            rules("keep when " + token, -12, 10);
            rules("keep when not " + token, -12, 14);
            rules("keep when 1= " + token, -12, 13);
            rules("keep when 1+ " + token, -12, 13);
        }
        String[] behindLeft = {"own", "5", "and", "or", "not", "when", ";", "up"};
        for (String token : behindLeft) {
            rules("keep when 1 " + token, -12, 12);
        }
        String[] behindRight = {"own", "5", "not", "when", "<", "=", ">", "up"};
        for (String token : behindRight) {
            rules("keep when 1=1 " + token, -12, 14);
        }
        String[] noLine = {"up", "5", ";", "when", "own", "+", "match"};
        for (String token : noLine) {
            law(token, -12, 0);
            law("told " + token, token.equals(";") ? 1 : -12, token.equals(";") ? -1 : 5);
        }
    }

    /** "(the end: the text's length)". */
    private static void theEnd() {
        String[] open = {"up", "up 5", "keep", "keep when", "keep when 1", "keep when 1+", "keep when 1=",
            "keep when 1=1", "keep when 1=1 and", "keep when not", "keep;match"};
        for (String text : open) {
            rules(text, -12, text.length());
            rules(text + " \n ", -12, text.length() + 3);
        }
        String[] lines = {"once", "once 5", "at", "at 5", "cap", "cap 5", "told", "cost", "told;cost"};
        for (String text : lines) {
            law(text, -12, text.length());
            law(text + "  ", -12, text.length() + 2);
        }
        PumpCrossing x = withStation();
        Checks.feed(x, "to 9 when 1=1 or 2=2;");
        c.due("cut in a word", x.rules(0, 15), -12);
        c.due("the word's place", x.fault(1), 14);
    }

    /** "4 ... (at it) the 5th not that is open". */
    private static void fourNots() {
        c.due("4 nots", rules("to 9 when not not not not 1=1;", 1, -1), 9);
        rules("to 9 when not not not not not 1=1;", -14, 26);
        c.due("not open any more", rules("to 9 when not not not not 1=1 and not 1=2;", 1, -1), 9);
        c.due("not holds for one C", rules("to 9 when not 1=1 or 1=1;", 1, -1), 9);
        c.due("not holds for one C", rules("to 9 when not 1=2 and 1=1;", 1, -1), 9);
        c.due("4 twice", rules("to 9 when not not not not 1=2 or not not not not 1=1;", 1, -1), 9);
        rules("to 9 when 1=2 or not not not not not 1=1;", -14, 33);
        c.due("4 in two rules", rules("up 1 when not not not not 1=2;to 9 when not not not not 1=1;", 2, -1), 9);
        rules("up 1 when not not not not 1=2;to 9 when not not not not not 1=1;", -14, 56);
        rules("to 9 when notnotnotnotnot 1=1;", -12, 10);
    }

    /** "FAULTS, the first along the text". */
    private static void theFirstAlong() {
        rules("go ?", -12, 0);
        rules("? go", -11, 0);
        rules("keep;go;" + "keep;".repeat(13), -12, 5);
        rules("keep;".repeat(12) + "keep ?", -14, 60);
        rules("keep when not not not not not ?", -14, 26);
        rules("keep when not not not not ? not", -11, 26);
        law("at 24;?", -13, 3);
        law("?at 24;", -11, 0);
        law("once 0;at 24;", -13, 5);
        law("go;once 0;", -12, 0);
    }

    /** "of one TOKEN the least kind". */
    private static void theLeastKind() {
        rules("keep;".repeat(12) + "?", -11, 60);
        rules("keep;".repeat(12) + "100", -11, 60);
        rules("keep;".repeat(12) + "go", -12, 60);
        rules("keep;".repeat(12) + ";", -12, 60);
        rules("keep when not not not not 1=1 not", -12, 30);
        rules("keep when 1=not", -12, 12);
        law("told 24;", -12, 5);
        law("at 100;", -11, 3);
        law("once 000;", -11, 5);
    }

    // ---- Promise 9

    /** "what 0: the FAULT (0 without, and at first), 1: its place (NONE without). NONE for others." */
    private static void faultAsked() {
        PumpCrossing x = withStation();
        c.due("at first", x.fault(0), 0);
        c.due("at first", x.fault(1), -1);
        Checks.law(x, " at 24;");
        int[] others = {-1, 2, Integer.MIN_VALUE, Integer.MAX_VALUE};
        for (int what : others) {
            c.due("others", x.fault(what), -1);
            twins.unmoved("others", -1, Twins::running, y -> y.fault(what));
        }
        c.due("fault", x.fault(0), 3);
        c.due("place", x.fault(1), 4);
        x.rules(0, 0);
        c.due("without", x.fault(0), 0);
        c.due("without", x.fault(1), -1);
    }

    /** "Of the latest rules() or law() that threw nothing". */
    private static void faultStays() {
        PumpCrossing x = withStation();
        Checks.rules(x, 0, "keep;go;");
        c.dueThrow("rules", ARGUMENT, () -> x.rules(0, 1));
        c.dueThrow("rules", ELEMENT, () -> x.rules(1, 0));
        c.dueThrow("law", ARGUMENT, () -> x.law(-1));
        c.due("fault of the one ahead", x.fault(0), 2);
        c.due("place of the one ahead", x.fault(1), 5);
        Checks.law(x, "?");
        c.due("fault of law", x.fault(0), 1);
        c.due("place of law", x.fault(1), 0);
        Checks.law(x, "told;");
        c.due("no fault of law", x.fault(0), 0);
        c.dueThrow("law", ARGUMENT, () -> x.law(1));
        c.due("still none", x.fault(0), 0);
        c.due("still no place", x.fault(1), -1);
    }
}
