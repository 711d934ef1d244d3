/** Promises 19 to 23: redress, points, thrown, total, ranked. */
public final class ScoresTest {
    public static void main(String[] args) {
        redress();
        mostRedress();
        points();
        lettersOfPoints();
        pointsHeld();
        pointsWithRedress();
        thrown();
        throwOutsHeld();
        totals();
        scoresAreOfEntered();
        rankedByTotal();
        rankedByKept();
        rankedByLast();
        rankedByBoat();
        rulesOfTheDay();
        Check.finish("ScoresTest");
    }

    private static void redress() {
        UnlikeBoats x = Check.fleet(3);
        Check.raced(x, 10, 20, 0);
        Check.due("redress", x.redress(0, 0), true);
        Check.due("again", x.redress(0, 0), false);
        Check.due("not entered", x.redress(0, 2), false);
        Check.due("no such boat", x.redress(0, 3), false);
        Check.due("no such boat", x.redress(0, -1), false);
        Check.due("no such race", x.redress(1, 0), false);
        Check.due("no such race", x.redress(-1, 0), false);
        x.days(1);
        Check.due("again on another day", x.redress(0, 0), false);
        Check.due("another", x.redress(0, 1), true);
        Check.due("redresses", x.count(9), 2);
    }

    private static void mostRedress() {
        UnlikeBoats x = Check.fleet(11);
        for (int race = 0; race < 2; race++) Check.raced(x, 1, 2, 3, 4, 5, 6, 7, 8, 9, 10, 11);
        for (int i = 0; i < 20; i++) Check.due("redress", x.redress(i / 10, i % 10), true);
        Check.due("one too many", x.redress(0, 10), false);
        Check.due("redresses", x.count(9), 20);
    }

    private static UnlikeBoats byPlaces(int boats) {
        UnlikeBoats x = Check.fleet(boats);
        Check.rules(x, 0, "p:k=0?r;p:e*100+f");
        return x;
    }

    private static void points() {
        UnlikeBoats x = byPlaces(5);
        Check.raced(x, 30, 20, 20, 0, 0);
        x.enter(0, 3);
        Check.due("a place", x.points(0, 0, 0), 30);
        Check.due("half a place", x.points(0, 1, 0), 15);
        Check.due("four entered, three finished", x.points(0, 3, 0), 403);
        Check.due("one not entered", x.points(0, 4, 0), 403);
        Check.due("q above", x.points(0, 0, 1), -1);
        Check.due("q below", x.points(0, 0, -1), -1);
        Check.due("no such race", x.points(1, 0, 0), -1);
        Check.due("no such race", x.points(-1, 0, 0), -1);
        Check.due("no such boat", x.points(0, 5, 0), -1);
        Check.due("no such boat", x.points(0, -1, 0), -1);
        x.days(1);
        x.enter(0, 4);
        x.result(0, 3, 0, 10);
        Check.due("as known in 1", x.points(0, 0, 1), 40);
        Check.due("as known in 0", x.points(0, 0, 0), 30);
        Check.due("five entered, four finished", x.points(0, 4, 1), 504);
        Check.due("not entered in 0", x.points(0, 4, 0), 403);
        x.race(0, 1, 0, 0, 0, 0);
        Check.due("told behind q", x.points(1, 0, 0), -1);
        Check.due("nobody entered", x.points(1, 0, 1), 0);
        UnlikeBoats y = Check.fleet(1);
        Check.raced(y, 5);
        Check.due("points without rules", y.points(0, 0, 0), 0);
        Check.rules(y, 0, "n:1000");
        Check.due("points without p", y.points(0, 0, 0), 0);
    }

    private static void lettersOfPoints() {
        UnlikeBoats x = Check.fleet(7);
        Check.rules(x, 0, "p:k*1000+r;a:k");
        Check.raced(x, 10, 20, 0, 0, 0, 0, 0);
        for (int boat = 2; boat < 6; boat++) {
            x.enter(0, boat);
            x.result(0, boat, boat - 1, 0);
        }
        Check.due("first", x.points(0, 0, 0), 10);
        Check.due("second", x.points(0, 1, 0), 20);
        for (int code = 1; code <= 4; code++) Check.due("code " + code, x.points(0, code + 1, 0), code * 1000);
        Check.due("not entered", x.points(0, 6, 0), 2000);
        x.word(0, 0, 5, 10, 10, 0, 1);
        x.word(0, 1, 5, 12, 10, 0, 1);
        x.protest(0, 0, 1, 5);
        x.decide(0);
        Check.due("disqualified", x.points(0, 0, 0), 5000);
        Check.due("then first", x.points(0, 1, 0), 10);
        Check.rules(x, 0, "p:l+s+w+c+d+g+h+u+m+o+7");
        Check.due("what is not told is 0", x.points(0, 0, 0), 7);
    }

    private static void pointsHeld() {
        UnlikeBoats x = Check.fleet(2);
        Check.raced(x, 10, 20);
        Check.rules(x, 0, "p:r-20");
        Check.due("not below 0", x.points(0, 0, 0), 0);
        Check.rules(x, 0, "p:r*1000");
        Check.due("10000", x.points(0, 0, 0), 10000);
        Check.due("not above 10000", x.points(0, 1, 0), 10000);
    }

    private static void pointsWithRedress() {
        UnlikeBoats x = byPlaces(3);
        Check.raced(x, 10, 20, 30);
        Check.raced(x, 20, 10, 30);
        Check.raced(x, 20, 10, 30);
        x.redress(0, 0);
        Check.due("the mean of the others", x.points(0, 0, 0), 20);
        x.result(2, 0, 0, 40);
        Check.due("cut", x.points(0, 0, 0), 25);
        Check.raced(x, 10, 20, 30);
        Check.due("cut: 60 by 3", x.points(0, 0, 0), 20);
        x.days(1);
        x.redress(1, 0);
        Check.due("without those that have it", x.points(0, 0, 1), 20);
        Check.due("of the second", x.points(1, 0, 1), 20);
        Check.due("as known in 0", x.points(1, 0, 0), 20);
        x.result(3, 0, 0, 25);
        Check.due("30 and 20", x.points(0, 0, 1), 25);
        Check.due("as known in 0", x.points(0, 0, 0), 20);
        x.race(0, 1, 0, 0, 0, 0);
        Check.due("one not entered counts too", x.points(0, 0, 1), 50 / 3);
        Check.due("in 0 it does not", x.points(0, 0, 0), 20);
        Check.due("others have no redress", x.points(0, 1, 1), 20);
        UnlikeBoats y = byPlaces(1);
        Check.raced(y, 10);
        y.redress(0, 0);
        Check.due("without others", y.points(0, 0, 0), 0);
        Check.raced(y, 10);
        y.redress(1, 0);
        Check.due("without others", y.points(0, 0, 0), 0);
        Check.raced(y, 10);
        Check.due("the third", y.points(0, 0, 0), 10);
        Check.due("total", y.total(0, 0), 30);
    }

    private static void thrown() {
        UnlikeBoats x = byPlaces(3);
        Check.rules(x, 0, "p:k=0?r;p:90;t:c/2");
        Check.raced(x, 10, 20, 30);
        Check.due("one race: none", x.thrown(0, 2, 0), 0);
        Check.raced(x, 30, 20, 10);
        Check.due("two races: one", x.thrown(1, 0, 0), 1);
        Check.due("two races: one", x.thrown(0, 0, 0), 0);
        Check.due("of alike ones the later", x.thrown(1, 1, 0), 1);
        Check.due("of alike ones the later", x.thrown(0, 1, 0), 0);
        Check.due("the most", x.thrown(0, 2, 0), 1);
        Check.due("the most", x.thrown(1, 2, 0), 0);
        Check.due("q above", x.thrown(0, 0, 1), -1);
        Check.due("q below", x.thrown(0, 0, -1), -1);
        Check.due("no such race", x.thrown(2, 0, 0), -1);
        Check.due("no such race", x.thrown(-1, 0, 0), -1);
        Check.due("no such boat", x.thrown(0, 3, 0), -1);
        Check.due("no such boat", x.thrown(0, -1, 0), -1);
        x.days(1);
        x.race(0, 1, 0, 0, 0, 0);
        Check.due("does not count in 0", x.thrown(2, 0, 0), -1);
        Check.due("not entered: the most", x.thrown(2, 0, 1), 1);
        Check.due("then not the other", x.thrown(1, 0, 1), 0);
        Check.raced(x, 10, 20, 0);
        Check.due("four races: two", x.thrown(3, 2, 1), 1);
        Check.due("four races: two", x.thrown(2, 2, 1), 1);
        Check.due("four races: two", x.thrown(0, 2, 1), 0);
        x.boat();
        Check.due("not in the scores", x.thrown(0, 3, 1), -1);
        x.redress(3, 1);
        Check.due("redress counts: mean of 20 20 90", x.points(3, 1, 1), 43);
        Check.due("redress is thrown out", x.thrown(3, 1, 1), 1);
        Check.due("and one more", x.thrown(2, 1, 1), 1);
    }

    private static void throwOutsHeld() {
        UnlikeBoats x = Check.fleet(2);
        Check.rules(x, 0, "p:k=0?r;t:c*9");
        for (int i = 0; i < 3; i++) Check.raced(x, 10, 20);
        Check.due("all but one", x.total(0, 0), 10);
        Check.due("the first stays", x.thrown(0, 1, 0), 0);
        Check.due("the second not", x.thrown(1, 1, 0), 1);
        Check.due("the third not", x.thrown(2, 1, 0), 1);
        Check.rules(x, 0, "p:k=0?r;t:0-c");
        Check.due("none below 0", x.total(0, 0), 30);
        Check.rules(x, 0, "p:k=0?r;t:l+s+w+k+r+e+f+d+g+h+u+m+o+1");
        Check.due("other letters are 0", x.total(0, 0), 20);
        Check.rules(x, 0, "p:k=0?r");
        Check.due("without t", x.total(1, 0), 60);
        UnlikeBoats y = Check.fleet(1);
        Check.rules(y, 0, "p:r;t:5");
        Check.raced(y, 10);
        Check.due("one race stays", y.total(0, 0), 10);
        Check.due("one race stays", y.thrown(0, 0, 0), 0);
    }

    private static void totals() {
        UnlikeBoats x = Check.fleet(4);
        Check.rules(x, 0, "p:k=0?r;p:e*10+10;t:c/3");
        Check.raced(x, 10, 20, 30);
        Check.due("10", x.total(0, 0), 10);
        x.days(1);
        Check.raced(x, 20, 10, 30);
        Check.due("10 and 20", x.total(0, 1), 30);
        x.days(1);
        Check.raced(x, 30, 10, 20);
        Check.due("10 and 20 without 30", x.total(0, 2), 30);
        Check.due("10 and 10 without 20", x.total(1, 2), 20);
        Check.due("20 and 30 without 30", x.total(2, 2), 50);
        Check.due("as known in 1", x.total(2, 1), 60);
        Check.due("as known in 0", x.total(2, 0), 30);
        Check.due("not in the scores", x.total(3, 2), -1);
        Check.due("q above", x.total(0, 3), -1);
        Check.due("q below", x.total(0, -1), -1);
        Check.due("no such boat", x.total(4, 2), -1);
        Check.due("no such boat", x.total(-1, 2), -1);
        x.result(0, 0, 4, 0);
        Check.due("told anew: 40 is thrown out", x.total(0, 2), 50);
        Check.due("the next one is better by it", x.total(1, 2), 20);
    }

    private static void scoresAreOfEntered() {
        UnlikeBoats x = Check.fleet(3);
        Check.rules(x, 0, "p:k=0?r;p:5");
        Check.due("no race", x.total(0, 0), -1);
        Check.due("no race", x.ranked(0, 0), -1);
        x.race(0, 1, 0, 0, 0, 0);
        Check.due("not entered", x.total(0, 0), -1);
        x.days(1);
        x.enter(0, 1);
        Check.due("entered, without result", x.total(1, 1), 5);
        Check.due("not entered by then", x.total(1, 0), -1);
        Check.due("the one entered", x.ranked(0, 1), 1);
        Check.due("none by then", x.ranked(0, 0), -1);
        Check.due("no other", x.ranked(1, 1), -1);
        Check.due("thrown, not entered by then", x.thrown(0, 1, 0), -1);
        Check.due("thrown, entered", x.thrown(0, 1, 1), 0);
    }

    private static void rankedByTotal() {
        UnlikeBoats x = byPlaces(4);
        Check.raced(x, 30, 0, 10, 20);
        Check.due("first", x.ranked(0, 0), 2);
        Check.due("second", x.ranked(1, 0), 3);
        Check.due("third", x.ranked(2, 0), 0);
        Check.due("no fourth", x.ranked(3, 0), -1);
        Check.due("i below", x.ranked(-1, 0), -1);
        Check.due("i far above", x.ranked(Integer.MAX_VALUE, 0), -1);
        Check.due("q above", x.ranked(0, 1), -1);
        Check.due("q below", x.ranked(0, -1), -1);
        x.days(1);
        x.result(0, 0, 0, 5);
        Check.due("told anew", x.ranked(0, 1), 0);
        Check.due("as known in 0", x.ranked(0, 0), 2);
    }

    private static void rankedByKept() {
        UnlikeBoats x = byPlaces(3);
        Check.raced(x, 20, 10, 30);
        Check.raced(x, 20, 30, 10);
        Check.due("alike", x.total(0, 0), x.total(1, 0));
        Check.due("10 and 30, 10 in the last race", x.ranked(0, 0), 2);
        Check.due("10 and 30, 30 in the last race", x.ranked(1, 0), 1);
        Check.due("20 and 20", x.ranked(2, 0), 0);
        x = byPlaces(2);
        Check.rules(x, 0, "p:k=0?r;p:e*10+10;t:1");
        Check.raced(x, 10, 20);
        Check.raced(x, 10, 20);
        Check.raced(x, 20, 10);
        Check.due("10 and 10", x.ranked(0, 0), 0);
        keptAlone();
    }

    /** BOAT 0 has 20, 20 and throws 40 out; BOAT 1 has 10, 30 and throws 50 out. */
    private static void keptAlone() {
        UnlikeBoats x = Check.fleet(6);
        Check.rules(x, 0, "p:k=0?r;p:99;t:1");
        Check.raced(x, 4, 1, 2, 3, 5, 6);
        Check.raced(x, 2, 5, 1, 3, 4, 6);
        Check.raced(x, 2, 3, 1, 4, 5, 6);
        Check.due("20 and 20", x.total(0, 0), 40);
        Check.due("10 and 30", x.total(1, 0), 40);
        Check.due("the leader", x.ranked(0, 0), 2);
        Check.due("rising, 10 first", x.ranked(1, 0), 1);
        Check.due("rising, 20 first", x.ranked(2, 0), 0);
    }

    private static void rankedByLast() {
        UnlikeBoats x = byPlaces(3);
        Check.raced(x, 20, 10, 30);
        Check.raced(x, 10, 20, 30);
        Check.due("the last race", x.ranked(0, 0), 0);
        Check.due("the last race", x.ranked(1, 0), 1);
        Check.raced(x, 10, 10, 30);
        Check.due("the last in which they differ", x.ranked(0, 0), 0);
        x.result(0, 0, 0, 10);
        x.result(0, 1, 0, 20);
        x.result(1, 0, 0, 20);
        x.result(1, 1, 0, 10);
        Check.due("the last in which they differ", x.ranked(0, 0), 1);
        lastThrownOut();
    }

    private static void lastThrownOut() {
        UnlikeBoats x = Check.fleet(4);
        Check.rules(x, 0, "p:k=0?r;p:99;t:1");
        Check.raced(x, 1, 2, 3, 4);
        Check.raced(x, 2, 1, 3, 4);
        Check.raced(x, 4, 3, 1, 2);
        Check.due("alike", x.total(0, 0), x.total(1, 0));
        Check.due("thrown out", x.thrown(2, 0, 0), 1);
        Check.due("thrown out", x.thrown(2, 1, 0), 1);
        Check.due("but it tells", x.ranked(0, 0), 1);
        Check.due("but it tells", x.ranked(1, 0), 0);
    }

    private static void rankedByBoat() {
        UnlikeBoats x = byPlaces(5);
        Check.raced(x, 20, 30, 20, 10, 20);
        Check.due("ranked(0)", x.ranked(0, 0), 3);
        Check.due("ranked(1)", x.ranked(1, 0), 0);
        Check.due("ranked(2)", x.ranked(2, 0), 2);
        Check.due("ranked(3)", x.ranked(3, 0), 4);
        Check.due("ranked(4)", x.ranked(4, 0), 1);
        UnlikeBoats y = Check.fleet(16);
        y.race(0, 1, 0, 0, 0, 0);
        for (int i = 0; i < 16; i++) y.enter(0, i);
        for (int i = 0; i < 16; i++) Check.due("all alike", y.ranked(i, 0), i);
        Check.due("a seventeenth", y.ranked(16, 0), -1);
    }

    /** p is that of the RACE's DAY, t that of q. */
    private static void rulesOfTheDay() {
        UnlikeBoats x = Check.fleet(2);
        x.days(4);
        Check.rules(x, 0, "p:100;t:0");
        Check.rules(x, 2, "p:200;t:1");
        for (int day = 1; day <= 3; day++) {
            x.race(day, 1, 0, 0, 0, 0);
            x.enter(day - 1, 0);
        }
        Check.due("day 1", x.points(0, 0, 4), 100);
        Check.due("day 2", x.points(1, 0, 4), 200);
        Check.due("total", x.total(0, 4), 300);
        x.days(2);
        Check.rules(x, 5, "p:7;t:2");
        Check.rules(x, 3, "p:70;t:0");
        Check.due("in 4 as known then", x.total(0, 4), 300);
        Check.due("in 6: 70 and 100 are left", x.points(2, 0, 6), 70);
        Check.due("in 6: two thrown out", x.total(0, 6), 70);
        Check.due("in 5: nothing told yet", x.total(0, 5), 300);
    }
}
