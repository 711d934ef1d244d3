/** Promises 9 to 11: rules, force, number; and what a TEXT is worth. */
public final class RulesTest {
    public static void main(String[] args) {
        rules();
        force();
        number();
        sums();
        clauses();
        letters();
        Check.finish("RulesTest");
    }

    private static void rules() {
        UnlikeBoats x = new UnlikeBoats();
        Check.due("an empty tape", x.rules(0), -1);
        Check.feed(x, "n:1+");
        Check.due("a fault", x.rules(0), -1);
        Check.due("refused, the tape stays", x.count(8), 4);
        Check.feed(x, "l");
        Check.due("day below", x.rules(-1), -1);
        Check.due("day above", x.rules(401), -1);
        Check.due("refused, the tape stays", x.count(8), 5);
        Check.due("rules(400)", x.rules(400), 0);
        Check.due("the tape is empty then", x.count(8), 0);
        Check.due("rules", x.count(3), 1);
        for (int i = 1; i < 16; i++) Check.due("rules", Check.rules(x, 0, "n:1000"), i);
        Check.due("one too many", Check.rules(x, 0, "n:1000"), -1);
        Check.due("refused, the tape stays", x.count(8), 6);
        Check.due("rules", x.count(3), 16);
    }

    private static void force() {
        UnlikeBoats x = new UnlikeBoats();
        Check.due("none", x.force(0, 0), -1);
        Check.rules(x, 10, "n:1");
        Check.rules(x, 20, "n:2");
        Check.rules(x, 10, "n:3");
        Check.due("ahead of all", x.force(9, 0), -1);
        Check.due("of one day the last told", x.force(10, 0), 2);
        Check.due("till the next", x.force(19, 0), 2);
        Check.due("the greatest day", x.force(20, 0), 1);
        Check.due("the last day", x.force(400, 0), 1);
        x.days(1);
        Check.rules(x, 0, "n:4");
        Check.due("told late", x.force(5, 1), 3);
        Check.due("told late, not known yet", x.force(5, 0), -1);
        Check.due("told late, from a lesser day", x.force(10, 1), 2);
        Check.due("q above", x.force(5, 2), -1);
        Check.due("q below", x.force(5, -1), -1);
        Check.due("day above", x.force(401, 1), -1);
        Check.due("day below", x.force(-1, 1), -1);
    }

    private static void number() {
        UnlikeBoats x = Check.fleet(3);
        Check.due("without all", x.number(0, 0, 0), 1000);
        x.certificate(0, 5, 150, 40, 7);
        Check.due("without rules", x.number(0, 5, 0), 1000);
        Check.rules(x, 6, "n:l*10+s-w");
        Check.due("rules not in force yet", x.number(0, 5, 0), 1000);
        Check.due("rules in force", x.number(0, 6, 0), 1533);
        Check.due("without certificate", x.number(1, 6, 0), 1000);
        x.certificate(1, 0, 400, 1, 1);
        Check.due("at most 2000", x.number(1, 6, 0), 2000);
        x.certificate(2, 0, 10, 1, 900);
        Check.due("at least 500", x.number(2, 6, 0), 500);
        x.certificate(2, 7, 50, 1, 1);
        Check.due("the edge 500", x.number(2, 7, 0), 500);
        x.certificate(2, 8, 200, 1, 1);
        Check.due("the edge 2000", x.number(2, 8, 0), 2000);
        x.certificate(2, 9, 50, 2, 1);
        Check.due("501", x.number(2, 9, 0), 501);
        x.days(3);
        x.certificate(0, 4, 160, 40, 7);
        Check.due("an older certificate told late", x.number(0, 6, 3), 1533);
        x.certificate(0, 6, 160, 40, 7);
        Check.due("as known in 3", x.number(0, 6, 3), 1633);
        Check.due("as known in 2", x.number(0, 6, 2), 1533);
        Check.rules(x, 6, "p:9");
        Check.due("without n", x.number(0, 6, 3), 1000);
        Check.due("rules as known in 2", x.number(0, 6, 2), 1533);
        Check.due("no such boat", x.number(3, 6, 3), -1);
        Check.due("no such boat", x.number(-1, 6, 3), -1);
        Check.due("no such day", x.number(0, 401, 3), -1);
        Check.due("no such day", x.number(0, -1, 3), -1);
        Check.due("no such q", x.number(0, 6, 4), -1);
        Check.due("no such q", x.number(0, 6, -1), -1);
    }

    /** Points of a boat that is not entered (k 2; r, e and f 0) tell what a SUM of p is, plus 5,000. */
    private static int worth(String sum) {
        UnlikeBoats x = Check.fleet(1);
        x.race(0, 1, 0, 0, 0, 0);
        if (Check.rules(x, 0, "p:5000+[" + sum + "]") < 0) return Integer.MIN_VALUE;
        return x.points(0, 0, 0) - 5000;
    }

    private static void sum(String text, int want) {
        Check.due("worth of " + text, worth(text), want);
    }

    private static void sums() {
        sum("0", 0);
        sum("00042", 42);
        sum("1+2*3", 7);
        sum("2*3+1", 7);
        sum("[1+2]*3", 9);
        sum("10-3-2", 5);
        sum("10-[3-2]", 9);
        sum("100/7/2", 7);
        sum("100/[7/2]", 33);
        sum("7/2*2", 6);
        sum("2*7/2", 7);
        sum("[0-7]/2", -3);
        sum("7/[0-2]", -3);
        sum("[0-7]/[0-2]", 3);
        sum("7/0", 0);
        sum("0/0", 0);
        sum("3+7/0", 3);
        sum("k*k", 4);
        sum("99999*99/99999", 99);
        sum("99999*99999/10000", 1000);
        sum("99999*99999/9999", 1000);
        sum("[0-99999]*99999/10000", -1000);
        sum("99999*100/10000", 999);
        sum("[99999*99999-10000+20000]/10000", 1000);
        sum("[99999*99999+1-10000*999]/10", 1000);
        sum("[99999*99999-10000*999]/10", 1000);
        sum("[0-99999*99999-1]/10000", -1000);
        sum("99999*99999-10000*1000", 0);
        sum("0-99999*99999+10000*1000", 0);
        sum("99999*100+99999*100-10000*1000", 0);
        sum("0-99999*100-99999*100+10000*1000", 0);
        sum("99999*100+99-9999*1000", 999);
        sum("[0-99999*99999-1+10000*999]/10", -1000);
        sum("r+e+f+l+s+w+c+d+g+h+u+m+o", 0);
    }

    private static void clause(String text, int want) {
        UnlikeBoats x = Check.fleet(1);
        x.race(0, 1, 0, 0, 0, 0);
        Check.due("rules " + text, Check.rules(x, 0, text), 0);
        Check.due("points by " + text, x.points(0, 0, 0), want);
    }

    /** k is 2 in all of these. */
    private static void clauses() {
        clause("n:7", 0);
        clause("p:1;p:2", 1);
        clause("p:k=1?1;p:k=2?2;p:3", 2);
        clause("p:k=1?1;n:5;p:k=3?2;p:3", 3);
        clause("p:k=1?1;p:k=3?2", 0);
        clause("p:k<2?1;p:2", 2);
        clause("p:k<3?1;p:2", 1);
        clause("p:k>2?1;p:2", 2);
        clause("p:k>1?1;p:2", 1);
        clause("p:!k=1?1;p:2", 1);
        clause("p:!k=2?1;p:2", 2);
        clause("p:!!k=2?1;p:2", 1);
        clause("p:k=2&k=1?1;p:2", 2);
        clause("p:k=2&k=2?1;p:2", 1);
        clause("p:k=1|k=2?1;p:2", 1);
        clause("p:k=2|k=1?1;p:2", 1);
        clause("p:k=1|k=3?1;p:2", 2);
        clause("p:k=2|k=1&k=1?1;p:2", 1);
        clause("p:(k=2|k=1)&k=1?1;p:2", 2);
        clause("p:k=1&k=1|k=2?1;p:2", 1);
        clause("p:k=1&(k=1|k=2)?1;p:2", 2);
        clause("p:!k=1&k=1?1;p:2", 2);
        clause("p:!(k=1&k=1)?1;p:2", 1);
        clause("p:!k=2|k=2?1;p:2", 1);
        clause("p:!(k=2|k=2)?1;p:2", 2);
        clause("p:k+1=3?1;p:2", 1);
        clause("p:[k+1]*2=6?1;p:2", 1);
        clause("p:6=[k+1]*2?1;p:2", 1);
        clause("p:0-1<0?1;p:2", 1);
        clause("p : k = 2 ? 1 + 8 ; p : 2", 9);
    }

    /** Letters that were told for another ask are 0 in the next one. */
    private static void lettersOfOthers() {
        UnlikeBoats x = Check.fleet(3);
        Check.rules(x, 0, "n:k+r+e+f+c+d+g+h+u+m+o+600;p:l+s+w+c+d+g+h+u+m+o+7;t:l+s+w+k+r+e+f+d+g+h+u+m+o;"
            + "a:l+s+w+r+e+f+c;b:1");
        for (int i = 0; i < 3; i++) x.certificate(i, 0, 111, 222, 333);
        for (int race = 0; race < 2; race++) Check.raced(x, 10, 20, 30);
        x.word(0, 0, 5, 10, 10, 0, 255);
        x.word(0, 1, 5, 20, 20, 0, 255);
        x.protest(0, 0, 1, 5);
        for (int i = 0; i < 2; i++) {
            Check.due("total", x.total(0, 0), 14);
            Check.due("a behind a total", x.finding(0, 0, 0), 0);
            Check.due("n behind a finding", x.number(0, 0, 0), 600);
            Check.due("a behind a number", x.finding(0, 0, 0), 0);
            Check.due("p behind a finding", x.points(1, 2, 0), 7);
            Check.due("n behind points", x.number(0, 0, 0), 600);
            Check.due("a behind points", x.finding(0, 0, 0), 0);
            Check.due("t behind a finding", x.thrown(1, 0, 0), 0);
        }
    }

    private static void letters() {
        UnlikeBoats x = Check.fleet(1);
        x.certificate(0, 0, 111, 222, 333);
        lettersOfOthers();
        Check.rules(x, 0, "n:k+r+e+f+c+d+g+h+u+m+o+600");
        Check.due("what is not told is 0", x.number(0, 0, 0), 600);
        Check.rules(x, 0, "n:l*5");
        Check.due("l", x.number(0, 0, 0), 555);
        Check.rules(x, 0, "n:s*5");
        Check.due("s", x.number(0, 0, 0), 1110);
        Check.rules(x, 0, "n:w*5");
        Check.due("w", x.number(0, 0, 0), 1665);
        Check.rules(x, 0, "n:l<111?600;n:l=111&s=222&w=333?700;n:800");
        Check.due("conditions of n", x.number(0, 0, 0), 700);
    }
}
