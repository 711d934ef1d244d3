/** Promises 12 to 18: race, swift, enter, result, coded, corrected, placed. */
public final class RacesTest {
    private static final int HIDDEN = -1000000000;

    public static void main(String[] args) {
        races();
        swift();
        entries();
        results();
        mostResults();
        coded();
        byMinutes();
        byMiles();
        numbersOfTheDay();
        placed();
        disqualified();
        Check.finish("RacesTest");
    }

    private static void races() {
        UnlikeBoats x = new UnlikeBoats();
        x.days(5);
        Check.due("least", x.race(0, 1, 0, 0, 0, 0), 0);
        Check.due("most", x.race(5, 1000, 1, 7, 99, 99), 1);
        Check.due("day above now", x.race(6, 1, 0, 0, 0, 0), -1);
        Check.due("day below", x.race(-1, 1, 0, 0, 0, 0), -1);
        Check.due("miles below", x.race(0, 0, 0, 0, 0, 0), -1);
        Check.due("miles above", x.race(0, 1001, 0, 0, 0, 0), -1);
        Check.due("way below", x.race(0, 1, -1, 0, 0, 0), -1);
        Check.due("way above", x.race(0, 1, 2, 0, 0, 0), -1);
        Check.due("wind below", x.race(0, 1, 0, -1, 0, 0), -1);
        Check.due("wind above", x.race(0, 1, 0, 8, 0, 0), -1);
        Check.due("x below", x.race(0, 1, 0, 0, -1, 0), -1);
        Check.due("x above", x.race(0, 1, 0, 0, 100, 0), -1);
        Check.due("y below", x.race(0, 1, 0, 0, 0, -1), -1);
        Check.due("y above", x.race(0, 1, 0, 0, 0, 100), -1);
        Check.due("refused ones do not count", x.count(4), 2);
        for (int i = 2; i < 20; i++) Check.due("race", x.race(0, 1, 0, 0, 0, 0), i);
        Check.due("one too many", x.race(0, 1, 0, 0, 0, 0), -1);
        Check.due("races", x.count(4), 20);
    }

    private static void swift() {
        UnlikeBoats x = new UnlikeBoats();
        x.race(0, 1, 0, 0, 0, 0);
        x.race(0, 1, 0, 0, 0, 0);
        Check.due("at first", x.told(0, 7), 2);
        Check.due("swift 0", x.swift(0, 0), false);
        Check.due("swift 10", x.swift(0, 10), false);
        Check.due("refused changes nothing", x.told(0, 7), 2);
        Check.due("swift 1", x.swift(0, 1), true);
        Check.due("told 1", x.told(0, 7), 1);
        Check.due("swift 9", x.swift(0, 9), true);
        Check.due("told 9", x.told(0, 7), 9);
        x.days(3);
        Check.due("told days later", x.told(0, 7), 9);
        Check.due("swift 4", x.swift(0, 4), true);
        Check.due("told 4", x.told(0, 7), 4);
        Check.due("of another race", x.told(1, 7), 2);
        x.days(397);
        Check.due("swift on the last day", x.swift(0, 3), true);
        Check.due("told on the last day", x.told(0, 7), 3);
        Check.due("no such race", x.swift(2, 3), false);
        Check.due("no such race", x.swift(-1, 3), false);
    }

    private static void entries() {
        UnlikeBoats x = Check.fleet(3);
        x.race(0, 1, 0, 0, 0, 0);
        Check.due("none", x.told(0, 6), 0);
        Check.due("enter", x.enter(0, 1), true);
        Check.due("again", x.enter(0, 1), false);
        x.days(1);
        Check.due("again on another day", x.enter(0, 1), false);
        Check.due("another", x.enter(0, 2), true);
        Check.due("two", x.told(0, 6), 2);
        Check.due("no such race", x.enter(1, 1), false);
        Check.due("no such race", x.enter(-1, 1), false);
        Check.due("no such boat", x.enter(0, 3), false);
        Check.due("no such boat", x.enter(0, -1), false);
        Check.due("two", x.told(0, 6), 2);
    }

    private static void results() {
        UnlikeBoats x = Check.fleet(3);
        x.race(0, 1, 0, 0, 0, 0);
        x.enter(0, 0);
        x.enter(0, 1);
        Check.due("least seconds", x.result(0, 0, 0, 1), true);
        Check.due("most seconds", x.result(0, 0, 0, 200000), true);
        Check.due("no seconds", x.result(0, 0, 0, 0), false);
        Check.due("seconds below", x.result(0, 0, 0, -1), false);
        Check.due("seconds above", x.result(0, 0, 0, 200001), false);
        for (int code = 1; code <= 4; code++) {
            Check.due("code " + code, x.result(0, 1, code, 0), true);
            Check.due("it is so", x.coded(0, 1, 0), code);
            Check.due("seconds with code " + code, x.result(0, 1, code, 1), false);
            Check.due("seconds with code " + code, x.result(0, 1, code, -1), false);
        }
        Check.due("code 5", x.result(0, 1, 5, 0), false);
        Check.due("code -1", x.result(0, 1, -1, 0), false);
        Check.due("not entered", x.result(0, 2, 0, 5), false);
        Check.due("no such race", x.result(1, 0, 0, 5), false);
        Check.due("no such race", x.result(-1, 0, 0, 5), false);
        Check.due("no such boat", x.result(0, 3, 0, 5), false);
        Check.due("no such boat", x.result(0, -1, 0, 5), false);
        Check.due("results", x.count(5), 6);
        Check.due("the last told", x.corrected(0, 0, 0), 200000);
    }

    private static void mostResults() {
        UnlikeBoats x = Check.fleet(1);
        x.race(0, 1, 0, 0, 0, 0);
        x.enter(0, 0);
        for (int i = 1; i <= 300; i++) Check.due("result", x.result(0, 0, 0, i), true);
        Check.due("one too many", x.result(0, 0, 0, 301), false);
        Check.due("results", x.count(5), 300);
        Check.due("the last told", x.corrected(0, 0, 0), 300);
    }

    private static void coded() {
        UnlikeBoats x = Check.fleet(3);
        x.days(1);
        x.race(0, 1, 0, 0, 0, 0);
        x.enter(0, 0);
        x.days(1);
        x.enter(0, 1);
        x.result(0, 0, 3, 0);
        x.days(1);
        x.result(0, 0, 0, 77);
        x.result(0, 1, 1, 0);
        x.result(0, 1, 4, 0);
        Check.due("the race was told behind q", x.coded(0, 0, 0), -1);
        Check.due("without result", x.coded(0, 0, 1), 2);
        Check.due("the first one", x.coded(0, 0, 2), 3);
        Check.due("told anew", x.coded(0, 0, 3), 0);
        Check.due("not entered by then", x.coded(0, 1, 1), -1);
        Check.due("entered by then", x.coded(0, 1, 2), 2);
        Check.due("of one day the last told", x.coded(0, 1, 3), 4);
        Check.due("never entered", x.coded(0, 2, 3), -1);
        Check.due("q above", x.coded(0, 0, 4), -1);
        Check.due("q below", x.coded(0, 0, -1), -1);
        Check.due("no such race", x.coded(1, 0, 3), -1);
        Check.due("no such race", x.coded(-1, 0, 3), -1);
        Check.due("no such boat", x.coded(0, 3, 3), -1);
        Check.due("no such boat", x.coded(0, -1, 3), -1);
    }

    /** BOAT i has the number 500 + 100 i. */
    private static UnlikeBoats unlike(int boats) {
        UnlikeBoats x = Check.fleet(boats);
        Check.rules(x, 0, "n:l*10");
        for (int i = 0; i < boats; i++) x.certificate(i, 0, 50 + 10 * i, 1, 1);
        return x;
    }

    private static void byMinutes() {
        UnlikeBoats x = unlike(4);
        Check.raced(x, 3601, 1001, 1, 0);
        Check.due("3601 by 500", x.corrected(0, 0, 0), 1800);
        Check.due("1001 by 600", x.corrected(0, 1, 0), 600);
        Check.due("1 by 700", x.corrected(0, 2, 0), 0);
        Check.due("not entered", x.corrected(0, 3, 0), HIDDEN);
        x.enter(0, 3);
        Check.due("without result", x.corrected(0, 3, 0), HIDDEN);
        x.result(0, 3, 1, 0);
        Check.due("not finished", x.corrected(0, 3, 0), HIDDEN);
        x.result(0, 3, 0, 200000);
        Check.due("200000 by 800", x.corrected(0, 3, 0), 160000);
        Check.due("q above", x.corrected(0, 3, 1), HIDDEN);
        Check.due("q below", x.corrected(0, 3, -1), HIDDEN);
        Check.due("no such race", x.corrected(1, 3, 0), HIDDEN);
        Check.due("no such race", x.corrected(-1, 3, 0), HIDDEN);
        Check.due("no such boat", x.corrected(0, 4, 0), HIDDEN);
        Check.due("no such boat", x.corrected(0, -1, 0), HIDDEN);
        x.days(1);
        x.race(0, 1, 0, 0, 0, 0);
        x.enter(1, 0);
        x.result(1, 0, 0, 10);
        Check.due("told behind q", x.corrected(1, 0, 0), HIDDEN);
        Check.due("told by q", x.corrected(1, 0, 1), 5);
        x.result(0, 0, 0, 2000);
        Check.due("anew", x.corrected(0, 0, 1), 1000);
        Check.due("as known ahead of it", x.corrected(0, 0, 0), 1800);
    }

    private static void byMiles() {
        UnlikeBoats x = unlike(7);
        x.race(0, 7, 1, 0, 0, 0);
        for (int i = 0; i < 7; i++) x.enter(0, i);
        for (int i = 0; i < 7; i++) x.result(0, i, 0, 1000);
        Check.due("500 less, 7 tenths", x.corrected(0, 0, 0), 650);
        Check.due("0 less", x.corrected(0, 5, 0), 1000);
        Check.due("100 more", x.corrected(0, 6, 0), 1070);
        x.certificate(0, 0, 99, 1, 1);
        Check.due("10 less: cut towards 0", x.corrected(0, 0, 0), 993);
        Check.rules(x, 0, "n:l*10+1");
        Check.due("9 less: cut towards 0", x.corrected(0, 0, 0), 994);
        Check.due("101 more: cut", x.corrected(0, 6, 0), 1070);
        x.race(0, 1000, 1, 0, 0, 0);
        x.enter(1, 1);
        x.result(1, 1, 0, 1);
        Check.due("below 0", x.corrected(1, 1, 0), 1 - 39900);
        x.enter(1, 2);
        x.result(1, 2, 1, 0);
        Check.due("not finished", x.corrected(1, 2, 0), HIDDEN);
    }

    private static void numbersOfTheDay() {
        UnlikeBoats x = Check.fleet(1);
        x.days(5);
        Check.rules(x, 0, "n:l*10");
        Check.rules(x, 4, "n:l*20");
        x.certificate(0, 0, 50, 1, 1);
        x.certificate(0, 3, 60, 1, 1);
        for (int day = 2; day <= 4; day++) {
            x.race(day, 1, 0, 0, 0, 0);
            x.enter(day - 2, 0);
            x.result(day - 2, 0, 0, 1000);
        }
        Check.due("day 2", x.corrected(0, 0, 5), 500);
        Check.due("day 3", x.corrected(1, 0, 5), 600);
        Check.due("day 4", x.corrected(2, 0, 5), 1200);
        x.days(1);
        x.certificate(0, 2, 70, 1, 1);
        Check.rules(x, 3, "n:l*30");
        Check.due("day 2 as known in 6", x.corrected(0, 0, 6), 700);
        Check.due("day 2 as known in 5", x.corrected(0, 0, 5), 500);
        Check.due("day 3 as known in 6", x.corrected(1, 0, 6), 1800);
        Check.due("day 3 as known in 5", x.corrected(1, 0, 5), 600);
        Check.due("day 4 as known in 6", x.corrected(2, 0, 6), 1200);
    }

    private static void placed() {
        UnlikeBoats x = Check.fleet(9);
        Check.raced(x, 50, 20, 50, 10, 20, 50, 60, 0);
        Check.due("alone at the top", x.placed(0, 3, 0), 10);
        Check.due("two alike", x.placed(0, 1, 0), 25);
        Check.due("two alike", x.placed(0, 4, 0), 25);
        Check.due("three alike", x.placed(0, 0, 0), 50);
        Check.due("three alike", x.placed(0, 2, 0), 50);
        Check.due("three alike", x.placed(0, 5, 0), 50);
        Check.due("the last", x.placed(0, 6, 0), 70);
        Check.due("not entered", x.placed(0, 7, 0), -1);
        x.enter(0, 7);
        Check.due("without result", x.placed(0, 7, 0), -1);
        x.result(0, 7, 4, 0);
        Check.due("not finished", x.placed(0, 7, 0), -1);
        Check.due("not finished takes no place", x.placed(0, 6, 0), 70);
        Check.due("q above", x.placed(0, 0, 1), -1);
        Check.due("q below", x.placed(0, 0, -1), -1);
        Check.due("no such race", x.placed(1, 0, 0), -1);
        Check.due("no such race", x.placed(-1, 0, 0), -1);
        Check.due("no such boat", x.placed(0, 9, 0), -1);
        Check.due("no such boat", x.placed(0, -1, 0), -1);
        Check.raced(x, 5, 5, 5);
        for (int boat = 0; boat < 3; boat++) Check.due("three alike at the top", x.placed(1, boat, 0), 20);
        x.days(1);
        x.race(0, 1, 0, 0, 0, 0);
        x.enter(2, 0);
        x.result(2, 0, 0, 5);
        Check.due("told behind q", x.placed(2, 0, 0), -1);
        x.result(1, 2, 0, 4);
        Check.due("as known in 1", x.placed(1, 0, 1), 25);
        Check.due("as known in 0", x.placed(1, 0, 0), 20);
        byCorrectedAlone();
    }

    private static void byCorrectedAlone() {
        UnlikeBoats x = unlike(2);
        Check.raced(x, 1001, 834);
        Check.due("500 alike, though unlike seconds", x.placed(0, 0, 0), 15);
        Check.due("500 alike, though unlike seconds", x.placed(0, 1, 0), 15);
        x.result(0, 1, 0, 833);
        Check.due("sooner by numbers", x.placed(0, 1, 0), 10);
    }

    private static void disqualified() {
        UnlikeBoats x = Check.fleet(3);
        Check.rules(x, 0, "a:1");
        Check.raced(x, 10, 20, 30);
        x.word(0, 0, 5, 10, 10, 0, 1);
        x.word(0, 1, 5, 12, 10, 0, 1);
        x.protest(0, 0, 1, 5);
        x.days(1);
        Check.due("decide", x.decide(0), 1);
        Check.due("code", x.coded(0, 0, 1), 5);
        Check.due("code the day ahead", x.coded(0, 0, 0), 0);
        Check.due("corrected", x.corrected(0, 0, 1), HIDDEN);
        Check.due("corrected the day ahead", x.corrected(0, 0, 0), 10);
        Check.due("placed", x.placed(0, 0, 1), -1);
        Check.due("the next one's place", x.placed(0, 1, 1), 10);
        Check.due("the next one's place the day ahead", x.placed(0, 1, 0), 20);
        Check.due("a result told then", x.result(0, 0, 0, 9), true);
        Check.due("changes no code", x.coded(0, 0, 1), 5);
        x.reopen(0);
        Check.due("undone", x.coded(0, 0, 1), 0);
        Check.due("with the result told", x.corrected(0, 0, 1), 9);
    }
}
