/** Objects that hold as much as they may, asked of all: no answer may go beyond a row's end. */
public final class FullTest {
    public static void main(String[] args) {
        manyRaces();
        manyBoats();
        Check.finish("FullTest");
    }

    /** Twenty races of seven boats; one of them comes sooner from the ninth on. */
    private static void manyRaces() {
        UnlikeBoats x = Check.fleet(7);
        Check.rules(x, 0, "p:k=0?r;p:e*10+10;t:c/4");
        for (int race = 0; race < 20; race++) {
            int late = race < 8 ? 1000 : 500;
            Check.due("race", Check.raced(x, late, 1000, 1001, 1002, 1003, 1004, 1005), race);
        }
        Check.due("fit", x.fit(0), 1002);
        Check.due("suspected race", x.suspect(0, 0), 8);
        Check.due("jump", x.suspect(0, 1), 1002 * 2 - 1002);
        Check.due("total", x.total(0, 0), 3 * 15 + 12 * 10);
        Check.due("total", x.total(6, 0), 15 * 70);
        Check.due("the last race is thrown out", x.thrown(19, 6, 0), 1);
        Check.due("the fifteenth is not", x.thrown(14, 6, 0), 0);
        for (int i = 0; i < 7; i++) Check.due("ranked", x.ranked(i, 0), i);
        Check.due("ranked(7)", x.ranked(7, 0), -1);
        Check.due("spread of 3 and 4", x.even(0b11000), 0);
        Check.due("change of 3", x.change(0b11000, 3), 1);
        Check.due("change of 4", x.change(0b11000, 4), 0);
        Check.due("one more race", x.race(0, 1, 0, 0, 0, 0), -1);
        x.redress(19, 6);
        Check.due("redress", x.points(19, 6, 0), 70);
    }

    private static void manyBoats() {
        UnlikeBoats x = Check.fleet(16);
        Check.rules(x, 0, "p:k=0?r;a:d=0?1;b:0");
        for (int race = 0; race < 6; race++) {
            x.race(0, 1, 0, 0, 0, 0);
            for (int boat = 0; boat < 16; boat++) {
                x.enter(race, boat);
                x.result(race, boat, 0, 2000 - boat);
                if (race == 0) x.start(race, boat, boat % 10, boat);
            }
        }
        for (int boat = 0; boat < 16; boat++) {
            x.certificate(boat, 0, 50, 1, 1);
            Check.due("ranked", x.ranked(boat, 0), 15 - boat);
            Check.due("placed", x.placed(5, boat, 0), 160 - 10 * boat);
        }
        Check.due("a seventeenth", x.ranked(16, 0), -1);
        Check.due("middle", x.middle(5, 0), 1992);
        Check.due("all drawn", x.draw(16, 9), 65535);
        Check.due("one too many", x.draw(17, 9), -1);
        Check.due("entered", x.told(0, 6), 16);
        Check.due("lean", x.lean(0), lean());
        x.word(0, 14, 100000, 99, 99, 0, 255);
        x.word(0, 15, 100000, 99, 99, 0, 255);
        x.protest(0, 15, 14, 100000);
        Check.due("states", x.states(0, 0, 0), 8);
        Check.due("finding", x.finding(0, 0, 0), 1);
        Check.due("decide", x.decide(0), 1);
        Check.due("the last boat", x.coded(0, 15, 0), 5);
        Check.due("count", x.count(10), 1);
    }

    private static int lean() {
        int lean = 0;
        for (int a = 0; a < 16; a++) {
            for (int b = 0; b < 16; b++) {
                if (a % 10 < b % 10) lean += Integer.compare(b, a);
            }
        }
        return lean;
    }
}
