import java.util.NoSuchElementException;

/** Promises 6 to 9: feed, rules, law, fault. */
public final class TextsTest {
    private static final Checks c = new Checks();

    public static void main(String[] args) {
        tape();
        rulesCounted();
        rulesFaults();
        lawFaults();
        wrongCalls();
        faultStays();
        conditions();
        c.end();
    }

    private static PumpCrossing withStation() {
        PumpCrossing x = new PumpCrossing();
        x.station(40, 60, 0);
        return x;
    }

    private static void tape() {
        PumpCrossing x = withStation();
        for (int k = 1; k <= 20; k++) {
            c.due("feed", x.feed(0x20202020, 0x20202020, 0x20202020, 0x20202020, 0x20202020), 20 * k);
        }
        c.due("a 21st feed", x.feed(0, 0, 0, 0, 0), -1);
        c.due("nothing changed", x.count(8), 400);
        c.due("only blanks", x.rules(0, 400), 0);
        c.due("empty then", x.count(8), 0);
        x.feed(0x746f2031, 0x313b746f, 0x2032323b, 0x746f2033, 0x333b2020);
        c.due("to 11;to 22;to 33;", x.rules(0, 18), 3);
        c.due("highest byte first", x.would(0), 11);
    }

    private static void rulesCounted() {
        PumpCrossing x = withStation();
        c.due("none", x.rules(0, 0), 0);
        c.due("no blanks", Checks.rules(x, 0, "up5when1=1and2<3or4>5;keep;"), 2);
        c.due("up 5", x.would(0), 65);
        c.due("twelve", Checks.rules(x, 0, "keep;keep;keep;keep;keep;keep;keep;keep;keep;keep;keep;keep;\n "), 12);
        c.due("four nots", Checks.rules(x, 0, "up 1 when not not not not 1=1;"), 1);
        c.due("four and four", Checks.rules(x, 0, "up 1 when not not not not 1=1 and not not not not 2=2;"), 1);
        c.due("it is so", x.would(0), 61);
        c.due("a nought ahead", Checks.rules(x, 0, "to 07;"), 1);
        c.due("seven", x.would(0), 7);
        Checks.feed(x, "keep;to 5;");
        c.due("only the first five", x.rules(0, 5), 1);
        c.due("kept", x.would(0), 60);
        c.due("rest is gone", x.count(8), 0);
        StringBuilder sum = new StringBuilder("to 9 when 0");
        while (sum.length() < 396) {
            sum.append("+1");
        }
        String text = sum.append("> 9;").toString();
        c.due("400 bytes", Checks.rules(x, 0, text.substring(text.length() - 400)), -12);
        c.due("400 bytes at most", Checks.rules(x, 0, "to 9 when" + " 1=1 or".repeat(55) + " 2=2;"), 1);
    }

    private static void ruleFault(String text, int kind, int place) {
        PumpCrossing x = withStation();
        Checks.rules(x, 0, "to 33;");
        c.due("rules '" + text + "'", Checks.rules(x, 0, text), -10 - kind);
        c.due("fault of '" + text + "'", x.fault(0), kind);
        c.due("place of '" + text + "'", x.fault(1), place);
        c.due("rules stay", x.would(0), 33);
        c.due("the tape is empty", x.count(8), 0);
    }

    private static void rulesFaults() {
        ruleFault("up 100;", 1, 3);
        ruleFault("up 1 when own=1234;", 1, 14);
        ruleFault("Up 1;", 1, 0);
        ruleFault("keep\t;", 1, 4);
        ruleFault("keep" + (char) 0 + ";", 1, 4);
        ruleFault("keep" + (char) 233 + ";", 1, 4);
        ruleFault("keep when (own=1);", 1, 10);
        ruleFault("go 5;", 2, 0);
        ruleFault("  upp 5;", 2, 2);
        ruleFault(";", 2, 0);
        ruleFault("keep", 2, 4);
        ruleFault("keep  ", 2, 6);
        ruleFault("up", 2, 2);
        ruleFault("up;", 2, 2);
        ruleFault("up x;", 2, 3);
        ruleFault("match 3;", 2, 6);
        ruleFault("keep;;", 2, 5);
        ruleFault("keep when;", 2, 9);
        ruleFault("keep when own;", 2, 13);
        ruleFault("keep when own=1=2;", 2, 15);
        ruleFault("keep when own<>1;", 2, 14);
        ruleFault("keep when -1<own;", 2, 10);
        ruleFault("keep when own+<1;", 2, 14);
        ruleFault("keep when own=1 and;", 2, 19);
        ruleFault("keep when own=1 or or 1=1;", 2, 19);
        ruleFault("keep when own=not 1;", 2, 14);
        ruleFault("keep when own+not 1;", 2, 14);
        ruleFault("keep when own=1 not 1=1;", 2, 16);
        ruleFault("keep when own=1 when own=1;", 2, 16);
        ruleFault("told;", 2, 0);
        ruleFault("up 5 5;", 2, 5);
        ruleFault("keep when not not not not not own=1;", 4, 26);
        ruleFault("keep when 1=1 or not not not not not own=1;", 4, 33);
        ruleFault("keep;".repeat(12) + " keep;", 4, 61);
        ruleFault("keep;".repeat(12) + "up up;", 4, 60);
        ruleFault("keep;".repeat(12) + "go;", 2, 60);
        ruleFault("keep;".repeat(12) + "?", 1, 60);
        ruleFault("keep;".repeat(12) + "5", 2, 60);
        ruleFault("go 100;", 2, 0);
        ruleFault("100 go;", 1, 0);
    }

    private static void lawFault(String text, int kind, int place) {
        PumpCrossing x = withStation();
        Checks.rules(x, 0, "up 9;");
        Checks.law(x, "cap 4;");
        c.due("law '" + text + "'", Checks.law(x, text), -10 - kind);
        c.due("fault of '" + text + "'", x.fault(0), kind);
        c.due("place of '" + text + "'", x.fault(1), place);
        c.due("the law stays", x.would(0), 64);
        c.due("the tape is empty", x.count(8), 0);
    }

    private static void lawFaults() {
        PumpCrossing x = withStation();
        c.due("all kinds of lines", Checks.law(x, "once 1;once 99;at 0;at 23;cap 0;cap 99;told;cost;told;"), 9);
        c.due("more than 12 lines", Checks.law(x, "told;".repeat(80)), 80);
        c.due("none", x.law(0), 0);
        lawFault("at 24;", 3, 3);
        lawFault("at 99;", 3, 3);
        lawFault("once 0;", 3, 5);
        lawFault("once 00;", 3, 5);
        lawFault("once 100;", 1, 5);
        lawFault("once;", 2, 4);
        lawFault("at x;", 2, 3);
        lawFault("cap 5", 2, 5);
        lawFault("told 5;", 2, 5);
        lawFault("5;", 2, 0);
        lawFault("keep;", 2, 0);
        lawFault("told;;", 2, 5);
        lawFault("told cost;", 2, 5);
        lawFault("cap 1;at 7;at 24 x;", 3, 14);
        lawFault("cap 1;#", 1, 6);
    }

    private static void wrongCalls() {
        PumpCrossing x = withStation();
        Checks.feed(x, "go;");
        c.dueThrow("no such station", NoSuchElementException.class, () -> x.rules(1, -1));
        c.dueThrow("station -1", NoSuchElementException.class, () -> x.rules(-1, 3));
        c.dueThrow("n below 0", IllegalArgumentException.class, () -> x.rules(0, -1));
        c.dueThrow("n above the tape", IllegalArgumentException.class, () -> x.rules(0, 21));
        c.dueThrow("n below 0", IllegalArgumentException.class, () -> x.law(-1));
        c.dueThrow("n above the tape", IllegalArgumentException.class, () -> x.law(21));
        c.due("the tape is as it was", x.count(8), 20);
        c.due("fault", x.fault(0), 0);
        c.due("place", x.fault(1), -1);
    }

    private static void faultStays() {
        PumpCrossing x = withStation();
        Checks.rules(x, 0, "keep;go;");
        c.dueThrow("throws", IllegalArgumentException.class, () -> x.rules(0, 1));
        c.due("fault stays", x.fault(0), 2);
        c.due("place stays", x.fault(1), 5);
        c.due("another", x.fault(2), -1);
        c.due("another", x.fault(-1), -1);
        x.law(0);
        c.due("fault of the latest", x.fault(0), 0);
        c.due("place of the latest", x.fault(1), -1);
    }

    private static void holds(String claim, boolean want) {
        PumpCrossing x = withStation();
        x.station(41, 50, 0);
        x.station(42, 70, 0);
        Checks.rules(x, 1, "up 1;");
        Checks.rules(x, 2, "down 1;");
        x.run(30);
        // Hour 30 is next: own 60, seen 80 and 40, hour 6, day 1, since 31, one rose, one fell.
        c.due("rule counts", Checks.rules(x, 0, "to 1 when " + claim + ";"), 1);
        c.due(claim, x.would(0) == 1, want);
    }

    private static void conditions() {
        holds("own=60", true);
        holds("least=40 and most=80", true);
        holds("cost=40", true);
        holds("hour=6 and day=1", true);
        holds("since=31", true);
        holds("rose=1 and fell=1", true);
        holds("own<60", false);
        holds("own>60", false);
        holds("own<61 and own>59", true);
        holds("not own=60", false);
        holds("not not own=60", true);
        holds("not own=60 or own=60", true);
        holds("not own=61 and own=61", false);
        holds("1=2 and 1=1 or 3=3", true);
        holds("1=1 or 1=1 and 1=2", true);
        holds("1=2 or 1=1 and 1=2", false);
        holds("1=2 and 1=1 or 1=2 or 2=1", false);
        holds("10-3-2=5", true);
        holds("10-3+2=9", true);
        holds("5=10-3-2", true);
        holds("0-1<0", true);
        holds("most-least=least", true);
        holds("own+own-own=59+1", true);
        holds("not 1=2 and not 1=1", false);
    }
}
