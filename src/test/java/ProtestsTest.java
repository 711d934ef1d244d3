/** Promises 24 to 29: word, protest, states, finding, decide, reopen. */
public final class ProtestsTest {
    public static void main(String[] args) {
        words();
        mostWords();
        protests();
        mostProtests();
        statesOfOneSecond();
        statesFromOtherSeconds();
        statesAsKnown();
        statesBySwift();
        findings();
        findingOfLetters();
        windward();
        starboard();
        findingAsKnown();
        decide();
        reopen();
        Check.finish("ProtestsTest");
    }

    private static UnlikeBoats entered(int boats) {
        UnlikeBoats x = Check.fleet(boats);
        x.race(0, 1, 0, 0, 50, 50);
        for (int i = 0; i < boats; i++) x.enter(0, i);
        return x;
    }

    private static void words() {
        UnlikeBoats x = entered(2);
        x.boat();
        Check.due("least", x.word(0, 0, 0, 0, 0, 0, 1), 0);
        Check.due("most", x.word(0, 1, 100000, 99, 99, 0, 255), 1);
        Check.due("most with size", x.word(0, 1, 100000, 96, 96, 3, 255), 2);
        Check.due("x and size above", x.word(0, 1, 0, 97, 96, 3, 255), -1);
        Check.due("y and size above", x.word(0, 1, 0, 96, 97, 3, 255), -1);
        Check.due("x and size above", x.word(0, 1, 0, 99, 0, 1, 255), -1);
        Check.due("x above", x.word(0, 1, 0, 100, 0, 0, 255), -1);
        Check.due("y above", x.word(0, 1, 0, 0, 100, 0, 255), -1);
        Check.due("x most", x.word(0, 1, 0, Integer.MAX_VALUE, 0, 3, 255), -1);
        Check.due("x below", x.word(0, 1, 0, -1, 0, 0, 255), -1);
        Check.due("y below", x.word(0, 1, 0, 0, -1, 0, 255), -1);
        Check.due("size below", x.word(0, 1, 0, 5, 5, -1, 255), -1);
        Check.due("size above", x.word(0, 1, 0, 5, 5, 4, 255), -1);
        Check.due("no direction", x.word(0, 1, 0, 5, 5, 0, 0), -1);
        Check.due("directions above", x.word(0, 1, 0, 5, 5, 0, 256), -1);
        Check.due("directions below", x.word(0, 1, 0, 5, 5, 0, -1), -1);
        Check.due("second below", x.word(0, 1, -1, 5, 5, 0, 1), -1);
        Check.due("second above", x.word(0, 1, 100001, 5, 5, 0, 1), -1);
        Check.due("not entered", x.word(0, 2, 0, 5, 5, 0, 1), -1);
        Check.due("no such boat", x.word(0, 3, 0, 5, 5, 0, 1), -1);
        Check.due("no such boat", x.word(0, -1, 0, 5, 5, 0, 1), -1);
        Check.due("no such race", x.word(1, 0, 0, 5, 5, 0, 1), -1);
        Check.due("no such race", x.word(-1, 0, 0, 5, 5, 0, 1), -1);
        Check.due("words", x.count(6), 3);
    }

    private static void mostWords() {
        UnlikeBoats x = entered(1);
        for (int i = 0; i < 200; i++) Check.due("word", x.word(0, 0, i, 5, 5, 0, 1), i);
        Check.due("one too many", x.word(0, 0, 0, 5, 5, 0, 1), -1);
        Check.due("words", x.count(6), 200);
    }

    private static void protests() {
        UnlikeBoats x = entered(2);
        x.boat();
        Check.due("least second", x.protest(0, 0, 1, 0), 0);
        Check.due("most seconds", x.protest(0, 1, 0, 100000), 1);
        Check.due("second below", x.protest(0, 0, 1, -1), -1);
        Check.due("second above", x.protest(0, 0, 1, 100001), -1);
        Check.due("alike", x.protest(0, 1, 1, 0), -1);
        Check.due("a not entered", x.protest(0, 2, 1, 0), -1);
        Check.due("b not entered", x.protest(0, 1, 2, 0), -1);
        Check.due("no such a", x.protest(0, 3, 1, 0), -1);
        Check.due("no such a", x.protest(0, -1, 1, 0), -1);
        Check.due("no such b", x.protest(0, 1, 3, 0), -1);
        Check.due("no such b", x.protest(0, 1, -1, 0), -1);
        Check.due("no such race", x.protest(1, 0, 1, 0), -1);
        Check.due("no such race", x.protest(-1, 0, 1, 0), -1);
        Check.due("protests", x.count(7), 2);
    }

    private static void mostProtests() {
        UnlikeBoats x = entered(2);
        for (int i = 0; i < 30; i++) Check.due("protest", x.protest(0, 0, 1, i), i);
        Check.due("one too many", x.protest(0, 0, 1, 0), -1);
        Check.due("protests", x.count(7), 30);
    }

    private static void statesOfOneSecond() {
        UnlikeBoats x = entered(3);
        x.protest(0, 0, 1, 10);
        Check.due("without words", x.states(0, 0, 0), 0);
        x.word(0, 0, 10, 20, 30, 3, 255);
        Check.due("16 places, 8 directions", x.states(0, 0, 0), 128);
        Check.due("the other has none", x.states(0, 1, 0), 0);
        x.word(0, 1, 10, 99, 0, 0, 0b10010);
        Check.due("one place, two directions", x.states(0, 1, 0), 2);
        x.word(0, 0, 10, 22, 31, 2, 0b1110);
        Check.due("2 by 3 places, 3 directions", x.states(0, 0, 0), 18);
        x.word(0, 0, 10, 20, 33, 3, 0b11000);
        Check.due("2 by 1 places, 1 direction", x.states(0, 0, 0), 2);
        x.word(0, 2, 10, 0, 0, 0, 1);
        Check.due("a word of another boat", x.states(0, 0, 0), 2);
        x.race(0, 1, 0, 0, 0, 0);
        x.enter(1, 0);
        x.word(1, 0, 10, 0, 0, 0, 1);
        Check.due("a word of another race", x.states(0, 0, 0), 2);
        x.word(0, 0, 10, 20, 30, 3, 0b110);
        Check.due("no direction is left", x.states(0, 0, 0), 0);
        x.word(0, 1, 10, 98, 0, 0, 0b10010);
        Check.due("no place is left", x.states(0, 1, 0), 0);
        Check.due("who below", x.states(0, -1, 0), -1);
        Check.due("who above", x.states(0, 2, 0), -1);
        Check.due("no such protest", x.states(1, 0, 0), -1);
        Check.due("no such protest", x.states(-1, 0, 0), -1);
        Check.due("q above", x.states(0, 0, 1), -1);
        Check.due("q below", x.states(0, 0, -1), -1);
    }

    private static void statesFromOtherSeconds() {
        UnlikeBoats x = entered(2);
        x.protest(0, 0, 1, 10);
        x.word(0, 0, 9, 20, 20, 0, 1);
        Check.due("a word of another second alone", x.states(0, 0, 0), 0);
        x.word(0, 0, 10, 20, 20, 3, 0b110);
        Check.due("3 by 3 places within two of it", x.states(0, 0, 0), 18);
        x.word(0, 0, 12, 26, 20, 0, 1);
        Check.due("1 by 3 places within four of that", x.states(0, 0, 0), 6);
        x.word(0, 0, 12, 25, 26, 3, 1);
        Check.due("1 by 1 place within four of some place", x.states(0, 0, 0), 2);
        x.word(0, 0, 11, 25, 22, 0, 255);
        Check.due("none within two", x.states(0, 0, 0), 0);
        x.word(0, 1, 10, 40, 40, 0, 255);
        x.word(0, 1, 0, 20, 60, 0, 1);
        Check.due("twenty within ten seconds", x.states(0, 1, 0), 8);
        x.word(0, 1, 19, 56, 25, 2, 1);
        Check.due("eighteen within nine seconds behind", x.states(0, 1, 0), 8);
        x.word(0, 1, 100000, 0, 99, 0, 1);
        Check.due("far within many seconds", x.states(0, 1, 0), 8);
        x.word(0, 1, 9, 40, 43, 0, 1);
        Check.due("three in one second", x.states(0, 1, 0), 0);
    }

    private static void statesAsKnown() {
        UnlikeBoats x = entered(2);
        x.days(1);
        x.word(0, 0, 10, 20, 20, 3, 255);
        x.days(1);
        x.protest(0, 0, 1, 10);
        Check.due("told behind q", x.states(0, 0, 1), -1);
        Check.due("finding, told behind q", x.finding(0, 0, 1), -1);
        Check.due("a word told ahead of it", x.states(0, 0, 2), 128);
        x.days(1);
        x.word(0, 0, 10, 20, 20, 0, 255);
        Check.due("a word told late", x.states(0, 0, 3), 8);
        Check.due("as known ahead of it", x.states(0, 0, 2), 128);
        x.days(1);
        x.word(0, 0, 11, 90, 90, 0, 255);
        Check.due("a word of another second told late", x.states(0, 0, 4), 0);
        Check.due("as known ahead of it", x.states(0, 0, 3), 8);
    }

    private static void statesBySwift() {
        UnlikeBoats x = entered(2);
        x.protest(0, 0, 1, 10);
        x.word(0, 0, 10, 20, 20, 0, 255);
        x.word(0, 0, 11, 25, 20, 0, 255);
        Check.due("at first 2", x.states(0, 0, 0), 0);
        x.swift(0, 4);
        Check.due("4", x.states(0, 0, 0), 0);
        x.swift(0, 5);
        Check.due("5", x.states(0, 0, 0), 8);
        x.days(2);
        x.swift(0, 4);
        Check.due("4 as known in 2", x.states(0, 0, 2), 0);
        Check.due("5 as known in 1", x.states(0, 0, 1), 8);
        Check.due("5 as known in 0", x.states(0, 0, 0), 8);
    }

    /** A at (20, 20), B at (22, 20), both of size s, all directions. */
    private static UnlikeBoats near(int size, String text) {
        UnlikeBoats x = entered(2);
        Check.due("rules " + text, Check.rules(x, 0, text), 0);
        x.word(0, 0, 10, 20, 20, size, 255);
        x.word(0, 1, 10, 22, 20, 0, 255);
        x.protest(0, 0, 1, 10);
        return x;
    }

    private static void findings() {
        UnlikeBoats x = near(0, "a:1;b:0");
        Check.due("surely", x.finding(0, 0, 0), 1);
        Check.due("not", x.finding(0, 1, 0), 0);
        Check.due("below 0 is unlike 0", near(0, "a:0-1;b:1").finding(0, 0, 0), 1);
        Check.due("of b", near(0, "a:0;b:1").finding(0, 1, 0), 1);
        Check.due("without its label", near(0, "a:1").finding(0, 1, 0), 0);
        Check.due("perhaps", near(3, "a:d=2?1").finding(0, 0, 0), 2);
        Check.due("surely within three", near(3, "a:d<4?1").finding(0, 0, 0), 1);
        Check.due("at none", near(3, "a:d>3?1").finding(0, 0, 0), 0);
        Check.due("perhaps, by direction", near(0, "a:o=1?1").finding(0, 0, 0), 2);
        x = entered(2);
        x.word(0, 0, 10, 20, 20, 0, 255);
        x.protest(0, 0, 1, 10);
        Check.due("without pairs", x.finding(0, 0, 0), -1);
        Check.due("without pairs", x.finding(0, 1, 0), -1);
        x.word(0, 1, 10, 22, 20, 0, 255);
        Check.due("without rules", x.finding(0, 0, 0), 0);
        Check.due("who below", x.finding(0, -1, 0), -1);
        Check.due("who above", x.finding(0, 2, 0), -1);
        Check.due("no such protest", x.finding(1, 0, 0), -1);
        Check.due("no such protest", x.finding(-1, 0, 0), -1);
        Check.due("q above", x.finding(0, 0, 1), -1);
        Check.due("q below", x.finding(0, 0, -1), -1);
    }

    /** The MARK is at (50, 50), the WIND from the north; A at (20, 27), B at (31, 24). */
    private static int found(String condition) {
        UnlikeBoats x = entered(2);
        Check.rules(x, 0, "b:" + condition + "?1");
        x.word(0, 0, 7, 20, 27, 0, 1);
        x.word(0, 1, 7, 31, 24, 0, 2);
        x.protest(0, 0, 1, 7);
        return x.finding(0, 1, 0);
    }

    private static void findingOfLetters() {
        Check.due("d", found("d=11"), 1);
        Check.due("m", found("m=30"), 1);
        Check.due("k", found("k=26"), 1);
        Check.due("u", found("u=0"), 1);
        Check.due("o", found("o=0"), 1);
        Check.due("g", found("g=0"), 1);
        Check.due("h", found("h=0"), 1);
        Check.due("others", found("l+s+w+r+e+f+c=0"), 1);
        Check.due("d is not else", found("!d=11"), 0);
    }

    private static void windward() {
        int[] dx = {0, 1, 1, 1, 0, -1, -1, -1};
        int[] dy = {-1, -1, 0, 1, 1, 1, 0, -1};
        for (int wind = 0; wind < 8; wind++) {
            UnlikeBoats x = Check.fleet(2);
            Check.rules(x, 0, "a:u;b:1-u");
            x.race(0, 1, 0, wind, 0, 0);
            x.enter(0, 0);
            x.enter(0, 1);
            x.word(0, 1, 0, 50, 50, 0, 1);
            for (int way = 0; way < 8; way++) {
                x.word(0, 0, 1000 * way + 1000, 50 + dx[way], 50 + dy[way], 0, 1);
                x.word(0, 1, 1000 * way + 1000, 50, 50, 0, 1);
                x.protest(0, 0, 1, 1000 * way + 1000);
                int off = Math.min((way - wind + 8) % 8, (wind - way + 8) % 8);
                Check.due("A is " + way + " of B, wind " + wind, x.finding(way, 0, 0), off < 2 ? 1 : 0);
                Check.due("A is " + way + " of B, wind " + wind, x.finding(way, 1, 0), off < 2 ? 0 : 1);
            }
        }
    }

    private static void starboard() {
        for (int wind = 0; wind < 8; wind++) {
            UnlikeBoats x = Check.fleet(2);
            Check.rules(x, 0, "a:g;b:h");
            x.race(0, 1, 0, wind, 0, 0);
            x.enter(0, 0);
            x.enter(0, 1);
            for (int way = 0; way < 8; way++) {
                x.word(0, 0, 1000 * way, 50, 50, 0, 1 << way);
                x.word(0, 1, 1000 * way, 50, 50, 0, 1 << (way + 3) % 8);
                x.protest(0, 0, 1, 1000 * way);
                Check.due("A goes " + way + ", wind " + wind, x.finding(way, 0, 0), (way - wind + 8) % 8 >= 5 ? 1 : 0);
                Check.due("B, wind " + wind, x.finding(way, 1, 0), (way + 3 - wind + 8) % 8 >= 5 ? 1 : 0);
            }
        }
    }

    private static void findingAsKnown() {
        UnlikeBoats x = near(0, "a:d=2?1;b:1");
        x.days(1);
        Check.rules(x, 0, "a:0;b:0");
        Check.due("by the rules as known in 1", x.finding(0, 0, 1), 0);
        Check.due("by the rules as known in 0", x.finding(0, 0, 0), 1);
        x.days(1);
        Check.rules(x, 0, "a:d=2?1;b:1");
        Check.rules(x, 1, "a:0;b:0");
        Check.due("by the rules of the race's day", x.finding(0, 0, 2), 1);
        x.word(0, 0, 9, 21, 20, 0, 1);
        Check.due("still in reach", x.finding(0, 0, 2), 1);
        x.word(0, 0, 10, 20, 20, 3, 1);
        Check.due("a wider word", x.finding(0, 0, 2), 1);
        x.word(0, 0, 9, 23, 20, 0, 1);
        Check.due("out of reach", x.finding(0, 0, 2), -1);
        Check.due("as known in 0", x.finding(0, 0, 0), 1);
    }

    private static int decided(String text) {
        return near(0, text).decide(0);
    }

    private static void decide() {
        Check.due("A", decided("a:1"), 1);
        Check.due("B", decided("b:1"), 2);
        Check.due("both", decided("a:1;b:1"), 3);
        Check.due("nobody", decided("n:1"), 0);
        Check.due("perhaps is not surely", decided("a:o;b:1-o"), 0);
        UnlikeBoats x = near(0, "a:1;b:1");
        Check.due("no such protest", x.decide(1), -1);
        Check.due("no such protest", x.decide(-1), -1);
        x.days(2);
        Check.due("decide", x.decide(0), 3);
        Check.due("again", x.decide(0), -1);
        Check.due("A", x.coded(0, 0, 2), 5);
        Check.due("B", x.coded(0, 1, 2), 5);
        Check.due("not in 1", x.coded(0, 0, 1), 2);
        Check.due("two", x.count(10), 2);
        x.days(1);
        Check.due("from then on", x.coded(0, 0, 3), 5);
        Check.due("again", x.decide(0), -1);
        x.protest(0, 1, 0, 10);
        Check.due("another of the same", x.decide(1), 3);
        Check.due("still two", x.count(10), 2);
        x.reopen(0);
        Check.due("still two by the other", x.count(10), 2);
        x.word(0, 1, 10, 23, 20, 0, 1);
        Check.due("nobody without pairs", x.decide(0), 0);
        Check.due("decided", x.decide(0), -1);
        Check.due("still by the other", x.coded(0, 0, 3), 5);
        decidedInOneRace();
    }

    private static void decidedInOneRace() {
        UnlikeBoats x = near(0, "a:1");
        x.race(0, 1, 0, 0, 50, 50);
        x.enter(1, 0);
        x.enter(1, 1);
        x.decide(0);
        Check.due("in that race", x.coded(0, 0, 0), 5);
        Check.due("in no other", x.coded(1, 0, 0), 2);
        x.word(1, 0, 10, 20, 20, 0, 1);
        x.word(1, 1, 10, 20, 20, 0, 1);
        x.protest(1, 0, 1, 10);
        x.decide(1);
        Check.due("in each race once", x.count(10), 2);
    }

    private static void reopen() {
        UnlikeBoats x = near(0, "a:1");
        Check.due("not decided", x.reopen(0), false);
        Check.due("no such protest", x.reopen(1), false);
        Check.due("no such protest", x.reopen(-1), false);
        x.days(1);
        x.decide(0);
        x.days(1);
        Check.due("reopen", x.reopen(0), true);
        Check.due("undone", x.coded(0, 0, 2), 2);
        Check.due("as known in 1", x.coded(0, 0, 1), 5);
        Check.due("nobody", x.count(10), 0);
        Check.due("not decided again", x.reopen(0), false);
        x.days(1);
        Check.rules(x, 0, "b:1");
        Check.due("decided anew", x.decide(0), 2);
        Check.due("again", x.decide(0), -1);
        Check.due("it was reopened", x.reopen(0), false);
        Check.due("B now", x.coded(0, 1, 3), 5);
        Check.due("A not", x.coded(0, 0, 3), 2);
        Check.due("B in 2", x.coded(0, 1, 2), 2);
        Check.due("A in 2", x.coded(0, 0, 2), 2);
        Check.due("A in 1", x.coded(0, 0, 1), 5);
        Check.due("B in 1", x.coded(0, 1, 1), 2);
        Check.due("A in 0", x.coded(0, 0, 0), 2);
        Check.due("one", x.count(10), 1);
        UnlikeBoats y = near(0, "n:1");
        Check.due("nobody", y.decide(0), 0);
        Check.due("may be reopened too", y.reopen(0), true);
        Check.due("and decided", y.decide(0), 0);
    }
}
