/** Promises 30 to 37: even, change, middle, fit, suspect, start, lean, draw. */
public final class OfficeTest {
    private static final int HIDDEN = -1000000000;

    public static void main(String[] args) {
        even();
        evenRefused();
        evenOfFour();
        middle();
        fit();
        fitAtEdges();
        suspect();
        suspectByDays();
        suspectTies();
        start();
        lean();
        draw();
        drawByWeight();
        Check.finish("OfficeTest");
    }

    private static void even() {
        UnlikeBoats x = Check.fleet(3);
        Check.due("no race", x.even(3), 0);
        Check.due("no change", x.change(3, 0), 0);
        Check.due("no change", x.change(3, 1), 0);
        Check.raced(x, 1000, 1004, 5000);
        Check.due("least spread", x.even(3), 0);
        Check.due("0 and -3 comes ahead of 1 and -2", x.change(3, 0), 0);
        Check.due("the other", x.change(3, 1), -3);
        Check.due("of all three", x.even(7), 3982);
        Check.due("0 of three: within both", x.change(7, 0), 3);
        Check.due("1 of three", x.change(7, 1), 0);
        Check.due("2 of three", x.change(7, 2), -3);
        x.race(0, 1, 1, 0, 0, 0);
        for (int i = 0; i < 2; i++) {
            x.enter(1, i);
            x.result(1, i, 0, 1000 + 500 * i);
        }
        Check.due("races by miles do not count", x.even(3), 0);
        Check.raced(x, 900, 0, 1);
        Check.due("races of one of them do not count", x.even(3), 0);
        x.days(1);
        x.result(0, 1, 0, 1000);
        Check.due("as known now", x.change(3, 0), 0);
        x.result(0, 1, 4, 0);
        Check.due("not finished", x.even(3), 0);
        Check.due("the two others in two races", x.even(5), 3982 + 902);
        Check.due("1 does as well as 2 and 3", x.change(5, 0), 1);
    }

    private static void evenRefused() {
        UnlikeBoats x = Check.fleet(5);
        Check.due("none", x.even(0), -1);
        Check.due("one", x.even(1), -1);
        Check.due("one", x.even(16), -1);
        Check.due("two", x.even(17), 0);
        Check.due("four", x.even(30), 0);
        Check.due("five", x.even(31), -1);
        Check.due("one that is none", x.even(33), -1);
        Check.due("one that is none", x.even(3 | 1 << 16), -1);
        Check.due("one that is none", x.even(3 | 1 << 31), -1);
        Check.due("all bits", x.even(-1), -1);
        Check.due("change of none", x.change(0, 0), HIDDEN);
        Check.due("change of one", x.change(1, 0), HIDDEN);
        Check.due("change of five", x.change(31, 0), HIDDEN);
        Check.due("change with one that is none", x.change(33, 0), HIDDEN);
        Check.due("change of none of them", x.change(3, 2), HIDDEN);
        Check.due("change of no such boat", x.change(3, 5), HIDDEN);
        Check.due("change of no such boat", x.change(3, -1), HIDDEN);
        Check.due("change of no such boat", x.change(3, 32), HIDDEN);
        Check.due("change of one of them", x.change(3, 1), 0);
        UnlikeBoats all = Check.fleet(16);
        Check.due("the last boat", all.even(1 | 1 << 15), 0);
        Check.due("none above", all.even(1 | 1 << 16), -1);
    }

    private static void evenOfFour() {
        UnlikeBoats x = Check.fleet(6);
        Check.rules(x, 0, "n:l*10");
        for (int i = 0; i < 6; i++) x.certificate(i, 0, 80 + 5 * i, 1, 1);
        Check.raced(x, 0, 1180, 1110, 1000, 1053, 996);
        Check.raced(x, 0, 1170, 1120, 1052, 1001, 0);
        Check.due("spread", x.even(0b111010), spread(x, 0b111010));
        x.days(3);
        x.certificate(3, 0, 99, 1, 1);
        Check.due("numbers as known now", x.even(0b11110), spread(x, 0b11110));
        Check.due("of others", x.even(0b110110), spread(x, 0b110110));
    }

    /** The least spread, by the document's words alone. */
    private static int spread(UnlikeBoats x, int boats) {
        int[][] seconds = {{0, 1180, 1110, 1000, 1053, 996}, {0, 1170, 1120, 1052, 1001, 0}};
        int best = Integer.MAX_VALUE;
        for (int all = 0; all < 7 * 7 * 7 * 7; all++) {
            int sum = 0;
            for (int race = 0; race < 2; race++) {
                int least = Integer.MAX_VALUE;
                int most = 0;
                int left = all;
                for (int boat = 0; boat < 6; boat++) {
                    if ((boats >> boat & 1) == 0) continue;
                    int change = left % 7 - 3;
                    left /= 7;
                    if (seconds[race][boat] == 0) continue;
                    int time = seconds[race][boat] * (x.number(boat, 0, x.count(0)) + change) / 1000;
                    least = Math.min(least, time);
                    most = Math.max(most, time);
                }
                sum += most - least;
            }
            best = Math.min(best, sum);
        }
        return best;
    }

    private static void middle() {
        UnlikeBoats x = Check.fleet(7);
        Check.raced(x, 70, 10, 40, 20, 0, 30, 0);
        Check.due("of four the lesser of both", x.middle(0, 0), 20);
        Check.due("of the others alone", x.middle(0, 3), 30);
        Check.due("not entered", x.middle(0, 4), HIDDEN);
        x.enter(0, 4);
        Check.due("without result", x.middle(0, 4), HIDDEN);
        x.result(0, 4, 0, 25);
        Check.due("of five", x.middle(0, 0), 25);
        Check.due("its own", x.middle(0, 4), 30);
        x.result(0, 4, 1, 0);
        Check.due("not finished", x.middle(0, 4), HIDDEN);
        Check.due("no such race", x.middle(1, 0), HIDDEN);
        Check.due("no such race", x.middle(-1, 0), HIDDEN);
        Check.due("no such boat", x.middle(0, 7), HIDDEN);
        Check.due("no such boat", x.middle(0, -1), HIDDEN);
        Check.raced(x, 70);
        Check.due("no other", x.middle(1, 0), HIDDEN);
        x.enter(1, 1);
        x.result(1, 1, 0, 30);
        Check.due("one other", x.middle(1, 0), 30);
        x.race(0, 1, 1, 0, 0, 0);
        x.enter(2, 0);
        x.enter(2, 1);
        x.result(2, 0, 0, 5);
        x.result(2, 1, 0, 5);
        Check.due("by miles", x.middle(2, 0), HIDDEN);
        x.days(1);
        Check.rules(x, 0, "n:l*10");
        x.certificate(1, 0, 50, 1, 1);
        Check.due("corrected as known now", x.middle(1, 0), 15);
    }

    private static void fit() {
        UnlikeBoats x = Check.fleet(3);
        Check.due("no race", x.fit(0), -1);
        Check.raced(x, 1000, 0, 900);
        Check.due("one race", x.fit(0), 900);
        Check.due("the other, at least so much", x.fit(2), 1112);
        Check.due("not entered", x.fit(1), -1);
        Check.due("no such boat", x.fit(3), -1);
        Check.due("no such boat", x.fit(-1), -1);
        Check.raced(x, 1000, 0, 800);
        Check.due("two races: the least", x.fit(0), 800);
        Check.raced(x, 1000, 0, 850);
        Check.due("three races: the middle", x.fit(0), 850);
        Check.rules(x, 0, "n:1100");
        x.certificate(0, 0, 50, 1, 1);
        Check.due("its own number is nothing to it", x.fit(0), 850);
        x.certificate(2, 0, 50, 1, 1);
        Check.due("that of others is", x.fit(0), 935);
        x.result(2, 0, 4, 0);
        Check.due("without the third", x.fit(0), 880);
    }

    private static void fitAtEdges() {
        UnlikeBoats x = Check.fleet(2);
        Check.raced(x, 10, 100);
        Check.due("2000 at most", x.fit(0), 2000);
        Check.due("500 at least", x.fit(1), 500);
        UnlikeBoats y = Check.fleet(2);
        Check.raced(y, 10, 7);
        Check.due("the least of those alike", y.fit(0), 700);
        UnlikeBoats z = Check.fleet(2);
        Check.raced(z, 1, 1);
        Check.due("1 by 1000", z.fit(0), 1000);
    }

    private static void suspect() {
        UnlikeBoats x = Check.fleet(3);
        int[] seconds = {1000, 1000, 800, 800, 800};
        for (int i = 0; i < 3; i++) Check.raced(x, seconds[i], 1000);
        Check.due("three ratios", x.suspect(0, 0), HIDDEN);
        Check.due("three ratios", x.suspect(0, 1), HIDDEN);
        for (int i = 3; i < 5; i++) Check.raced(x, seconds[i], 1000);
        Check.due("the race", x.suspect(0, 0), 2);
        Check.due("jump", x.suspect(0, 1), 250);
        Check.due("of the other", x.suspect(1, 0), 2);
        Check.due("jump below 0", x.suspect(1, 1), -200);
        Check.due("what below", x.suspect(0, -1), HIDDEN);
        Check.due("what above", x.suspect(0, 2), HIDDEN);
        Check.due("without races", x.suspect(2, 0), HIDDEN);
        Check.due("no such boat", x.suspect(3, 0), HIDDEN);
        Check.due("no such boat", x.suspect(-1, 0), HIDDEN);
        x.result(0, 0, 0, 500);
        Check.due("means are cut: 1250 less 1500", x.suspect(0, 1), -250);
        Check.due("the first split", x.suspect(0, 0), 2);
        x.result(2, 1, 0, 1);
        Check.due("833 less 1500", x.suspect(0, 1), -667);
        x.result(0, 0, 0, 100000);
        Check.due("1250 less 337", x.suspect(0, 1), 913);
        Check.due("the second split", x.suspect(0, 0), 3);
        divisors();
    }

    private static void divisors() {
        UnlikeBoats x = Check.fleet(2);
        Check.rules(x, 0, "n:500");
        x.certificate(0, 0, 50, 1, 1);
        for (int i = 0; i < 4; i++) Check.raced(x, 1, i < 2 ? 10 : 20);
        Check.due("corrected 0 counts 1", x.suspect(0, 1), 10000);
        Check.due("middle 0", x.suspect(1, 1), 0);
    }

    private static void suspectByDays() {
        UnlikeBoats x = Check.fleet(2);
        x.days(9);
        int[] days = {5, 3, 5, 3, 4};
        int[] seconds = {800, 1000, 500, 1000, 1000};
        for (int i = 0; i < 5; i++) {
            x.race(days[i], 1, 0, 0, 0, 0);
            x.enter(i, 0);
            x.enter(i, 1);
            x.result(i, 0, 0, seconds[i]);
            x.result(i, 1, 0, 1000);
        }
        Check.due("by days 1 3 4 0 2", x.suspect(0, 0), 0);
        Check.due("jump", x.suspect(0, 1), 625);
        x.result(4, 0, 4, 0);
        Check.due("without race 4", x.suspect(0, 1), 625);
        Check.due("without race 4", x.suspect(0, 0), 0);
        x.result(0, 0, 4, 0);
        Check.due("three ratios", x.suspect(0, 0), HIDDEN);
    }

    private static void suspectTies() {
        UnlikeBoats x = Check.fleet(2);
        for (int i = 0; i < 6; i++) Check.raced(x, 1000, 1000);
        Check.due("all alike: the first split", x.suspect(0, 0), 2);
        Check.due("no jump", x.suspect(0, 1), 0);
        UnlikeBoats y = Check.fleet(2);
        int[] ratios = {1000, 1000, 500, 1000, 500, 1000, 1000};
        for (int i = 0; i < 7; i++) Check.raced(y, 1000, ratios[i]);
        Check.due("as far from 0: -200 ahead of 200", y.suspect(0, 1), 800 - 1000);
        Check.due("the first of them", y.suspect(0, 0), 2);
        UnlikeBoats z = Check.fleet(2);
        int[] rising = {1000, 999, 1000, 999, 1000};
        for (int i = 0; i < 5; i++) Check.raced(z, 1000, rising[i]);
        Check.due("means cut: 999 and 999", z.suspect(0, 1), 0);
        Check.due("first of alike", z.suspect(0, 0), 2);
    }

    private static void start() {
        UnlikeBoats x = Check.fleet(3);
        x.race(0, 1, 0, 0, 0, 0);
        x.enter(0, 0);
        x.enter(0, 1);
        Check.due("least", x.start(0, 0, 0, 0), true);
        Check.due("most", x.start(0, 1, 9, 600), true);
        Check.due("end below", x.start(0, 0, -1, 0), false);
        Check.due("end above", x.start(0, 0, 10, 0), false);
        Check.due("seconds below", x.start(0, 0, 0, -1), false);
        Check.due("seconds above", x.start(0, 0, 0, 601), false);
        Check.due("not entered", x.start(0, 2, 0, 0), false);
        Check.due("no such boat", x.start(0, 3, 0, 0), false);
        Check.due("no such boat", x.start(0, -1, 0, 0), false);
        Check.due("no such race", x.start(1, 0, 0, 0), false);
        Check.due("no such race", x.start(-1, 0, 0, 0), false);
        Check.due("refused ones change nothing", x.lean(0), 1);
        Check.due("told again", x.start(0, 0, 9, 0), true);
        Check.due("that", x.lean(0), 0);
        Check.due("told again", x.start(0, 1, 8, 599), true);
        Check.due("that", x.lean(0), -1);
    }

    private static void lean() {
        UnlikeBoats x = Check.fleet(5);
        x.race(0, 1, 0, 0, 0, 0);
        for (int i = 0; i < 5; i++) x.enter(0, i);
        Check.due("without starts", x.lean(0), 0);
        x.start(0, 4, 1, 5);
        Check.due("one start", x.lean(0), 0);
        x.start(0, 0, 5, 7);
        Check.due("sooner at the lower end", x.lean(0), 1);
        x.start(0, 1, 5, 2);
        Check.due("and later", x.lean(0), 0);
        x.start(0, 2, 5, 5);
        Check.due("alike seconds", x.lean(0), 0);
        x.start(0, 3, 1, 9);
        Check.due("alike ends", x.lean(0), -3);
        x.days(1);
        x.start(0, 3, 9, 600);
        Check.due("told again", x.lean(0), 4);
        x.race(0, 1, 0, 0, 0, 0);
        Check.due("of another race", x.lean(1), 0);
        Check.due("no such race", x.lean(2), HIDDEN);
        Check.due("no such race", x.lean(-1), HIDDEN);
    }

    private static void draw() {
        UnlikeBoats x = Check.fleet(4);
        Check.due("nobody has a certificate", x.draw(1, 0), -1);
        x.certificate(1, 400, 50, 1, 1);
        Check.due("one that is not in force yet", x.draw(1, 0), 2);
        Check.due("two of one", x.draw(2, 0), -1);
        x.certificate(1, 0, 50, 1, 1);
        Check.due("two certificates of one", x.draw(2, 0), -1);
        x.certificate(3, 0, 50, 1, 1);
        Check.due("two of two", x.draw(2, 0), 10);
        Check.due("none", x.draw(0, 0), -1);
        Check.due("below", x.draw(-1, 0), -1);
        Check.due("least", x.draw(Integer.MIN_VALUE, 0), -1);
        Check.due("most", x.draw(Integer.MAX_VALUE, 0), -1);
        x.certificate(0, 0, 50, 1, 1);
        x.certificate(2, 0, 50, 1, 1);
        int[] weights = {1, 1, 1, 1};
        for (int n = 1; n <= 4; n++) {
            for (long seed = -20; seed <= 20; seed++) Check.due("draw", x.draw(n, seed), drawn(weights, n, seed));
            Check.due("draw", x.draw(n, Long.MAX_VALUE), drawn(weights, n, Long.MAX_VALUE));
            Check.due("draw", x.draw(n, Long.MIN_VALUE), drawn(weights, n, Long.MIN_VALUE));
        }
        Check.due("it changes nothing", x.draw(1, 77), x.draw(1, 77));
    }

    private static int drawn(int[] weights, int n, long seed) {
        int[] left = weights.clone();
        java.math.BigInteger x = java.math.BigInteger.valueOf(seed);
        java.math.BigInteger round = java.math.BigInteger.ONE.shiftLeft(64);
        int bits = 0;
        for (int i = 0; i < n; i++) {
            x = x.multiply(new java.math.BigInteger("6364136223846793005"));
            x = x.add(new java.math.BigInteger("1442695040888963407")).mod(round);
            long sum = 0;
            for (int w : left) sum += w;
            long spot = x.shiftRight(33).longValueExact() % sum;
            int who = 0;
            while (spot >= left[who]) spot -= left[who++];
            bits |= 1 << who;
            left[who] = 0;
        }
        return bits;
    }

    private static void drawByWeight() {
        UnlikeBoats x = Check.fleet(5);
        for (int i = 0; i < 4; i++) x.certificate(i, i == 2 ? 2 : 0, 50 + i, 1, 1);
        Check.raced(x, 1000, 990, 0, 0, 700);
        Check.raced(x, 1000, 1100, 850, 0, 900);
        Check.rules(x, 0, "n:900+l");
        int[] weights = new int[4];
        for (int i = 0; i < 4; i++) {
            weights[i] = 1 + (x.fit(i) < 0 ? 0 : Math.abs(x.fit(i) - x.number(i, 0, 0)));
        }
        Check.due("without fit", weights[3], 1);
        Check.due("number without certificate in force", x.number(2, 0, 0), 1000);
        for (int n = 1; n <= 4; n++) {
            for (long seed = 100; seed < 120; seed++) Check.due("by weight", x.draw(n, seed), drawn(weights, n, seed));
        }
        x.days(2);
        Check.due("number of now", x.number(2, 2, 2), 952);
        weights[2] = 1 + Math.abs(x.fit(2) - 952);
        for (long seed = 0; seed < 40; seed++) Check.due("by number of now", x.draw(2, seed), drawn(weights, 2, seed));
    }
}
