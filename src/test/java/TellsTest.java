/** Promises 38 and 39: told, count. */
public final class TellsTest {
    public static void main(String[] args) {
        told();
        counts();
        countOfDisqualified();
        Check.finish("TellsTest");
    }

    private static void told() {
        UnlikeBoats x = Check.fleet(2);
        x.days(9);
        x.race(7, 123, 1, 6, 45, 67);
        x.days(1);
        x.race(0, 1, 0, 0, 0, 99);
        x.enter(0, 1);
        x.swift(0, 5);
        int[] want = {7, 123, 1, 6, 45, 67, 1, 5, 9};
        int[] other = {0, 1, 0, 0, 0, 99, 0, 2, 10};
        for (int what = 0; what <= 8; what++) {
            Check.due("told(0, " + what + ")", x.told(0, what), want[what]);
            Check.due("told(1, " + what + ")", x.told(1, what), other[what]);
        }
        Check.dueNothing(x, 0, -1);
        Check.dueNothing(x, 0, 9);
        Check.dueNothing(x, 0, Integer.MIN_VALUE);
        Check.dueNothing(x, 0, Integer.MAX_VALUE);
        Check.dueNothing(x, 2, 0);
        Check.dueNothing(x, -1, 0);
        Check.dueNothing(x, Integer.MAX_VALUE, 0);
        Check.dueNothing(x, 20, 6);
    }

    private static void counts() {
        UnlikeBoats x = Check.fleet(3);
        x.days(4);
        for (int i = 0; i < 5; i++) x.certificate(0, 0, 50, 1, 1);
        for (int i = 0; i < 2; i++) Check.rules(x, 0, "n:1");
        for (int i = 0; i < 6; i++) x.race(0, 1, 0, 0, 0, 0);
        x.enter(0, 0);
        x.enter(0, 1);
        for (int i = 0; i < 7; i++) x.result(0, 0, 1, 0);
        for (int i = 0; i < 8; i++) x.word(0, 0, 0, 0, 0, 0, 1);
        for (int i = 0; i < 9; i++) x.protest(0, 0, 1, 0);
        Check.feed(x, "0123456789");
        x.redress(0, 0);
        int[] want = {4, 3, 5, 2, 6, 7, 8, 9, 10, 1, 0};
        for (int what = 0; what <= 10; what++) Check.due("count(" + what + ")", x.count(what), want[what]);
        Check.due("count(-1)", x.count(-1), -1);
        Check.due("count(11)", x.count(11), -1);
        Check.due("count(least)", x.count(Integer.MIN_VALUE), -1);
        Check.due("count(most)", x.count(Integer.MAX_VALUE), -1);
    }

    private static void countOfDisqualified() {
        UnlikeBoats x = Check.fleet(3);
        Check.rules(x, 0, "a:1");
        for (int race = 0; race < 2; race++) {
            x.race(0, 1, 0, 0, 0, 0);
            for (int boat = 0; boat < 3; boat++) {
                x.enter(race, boat);
                x.word(race, boat, 0, 0, 0, 0, 1);
            }
        }
        x.protest(0, 0, 1, 0);
        x.protest(0, 0, 2, 0);
        x.protest(0, 1, 2, 0);
        x.protest(1, 0, 2, 0);
        Check.due("none", x.count(10), 0);
        x.decide(0);
        Check.due("one", x.count(10), 1);
        x.decide(1);
        Check.due("the same one", x.count(10), 1);
        x.decide(2);
        Check.due("two", x.count(10), 2);
        x.decide(3);
        Check.due("one in another race", x.count(10), 3);
        x.reopen(0);
        Check.due("still by the second", x.count(10), 3);
        x.reopen(1);
        Check.due("not any more", x.count(10), 2);
    }
}
