/** Promises 1 to 5: a new object, days, boats, certificates. */
public final class BoatsTest {
    public static void main(String[] args) {
        newObject();
        days();
        boats();
        certificates();
        measured();
        Check.finish("BoatsTest");
    }

    private static void newObject() {
        UnlikeBoats x = new UnlikeBoats();
        for (int what = 0; what <= 10; what++) Check.due("new count(" + what + ")", x.count(what), 0);
        Check.due("new fault", x.fault(), 0);
        Check.due("new force", x.force(0, 0), -1);
        Check.due("new number", x.number(0, 0, 0), -1);
        Check.due("new measured", x.measured(0, 0, 0), -1);
        Check.due("new ranked", x.ranked(0, 0), -1);
        Check.due("new q of tomorrow", x.ranked(0, 1), -1);
        Check.dueNothing(x, 0, 0);
        UnlikeBoats y = new UnlikeBoats();
        x.boat();
        x.days(3);
        Check.due("another object's boats", y.count(1), 0);
        Check.due("another object's day", y.count(0), 0);
    }

    private static void days() {
        UnlikeBoats x = new UnlikeBoats();
        Check.due("days(0)", x.days(0), 0);
        Check.due("days(-1)", x.days(-1), -1);
        Check.due("days(401)", x.days(401), -1);
        Check.due("days(least)", x.days(Integer.MIN_VALUE), -1);
        Check.due("days(most)", x.days(Integer.MAX_VALUE), -1);
        Check.due("refused changes nothing", x.count(0), 0);
        Check.due("days(7)", x.days(7), 7);
        Check.due("days(3)", x.days(3), 10);
        Check.due("count(0)", x.count(0), 10);
        Check.due("days(391)", x.days(391), -1);
        Check.due("days(390)", x.days(390), 400);
        Check.due("days(1) at the end", x.days(1), -1);
        Check.due("days(0) at the end", x.days(0), 400);
        Check.due("days(400) at once", new UnlikeBoats().days(400), 400);
    }

    private static void boats() {
        UnlikeBoats x = new UnlikeBoats();
        for (int i = 0; i < 16; i++) Check.due("boat()", x.boat(), i);
        Check.due("a seventeenth", x.boat(), -1);
        Check.due("boats", x.count(1), 16);
    }

    private static void certificates() {
        UnlikeBoats x = Check.fleet(2);
        Check.due("least", x.certificate(0, 0, 10, 1, 1), 0);
        Check.due("most", x.certificate(1, 400, 400, 4000, 900), 1);
        Check.due("no such boat", x.certificate(2, 0, 10, 1, 1), -1);
        Check.due("no such boat", x.certificate(-1, 0, 10, 1, 1), -1);
        Check.due("from below", x.certificate(0, -1, 10, 1, 1), -1);
        Check.due("from above", x.certificate(0, 401, 10, 1, 1), -1);
        Check.due("lon below", x.certificate(0, 0, 9, 1, 1), -1);
        Check.due("lon above", x.certificate(0, 0, 401, 1, 1), -1);
        Check.due("area below", x.certificate(0, 0, 10, 0, 1), -1);
        Check.due("area above", x.certificate(0, 0, 10, 4001, 1), -1);
        Check.due("weight below", x.certificate(0, 0, 10, 1, 0), -1);
        Check.due("weight above", x.certificate(0, 0, 10, 1, 901), -1);
        Check.due("refused ones do not count", x.count(2), 2);
        for (int i = 2; i < 80; i++) Check.due("certificate", x.certificate(0, 5, 20, 2, 2), i);
        Check.due("one too many", x.certificate(0, 0, 10, 1, 1), -1);
        Check.due("certificates", x.count(2), 80);
    }

    private static void measured() {
        UnlikeBoats x = Check.fleet(3);
        x.certificate(0, 10, 100, 1, 1);
        x.certificate(1, 0, 100, 1, 1);
        x.certificate(0, 20, 100, 1, 1);
        x.certificate(0, 10, 100, 1, 1);
        Check.due("ahead of all", x.measured(0, 9, 0), -1);
        Check.due("of one day the last told", x.measured(0, 10, 0), 3);
        Check.due("till the next", x.measured(0, 19, 0), 3);
        Check.due("the greatest day", x.measured(0, 20, 0), 2);
        Check.due("the last day", x.measured(0, 400, 0), 2);
        Check.due("another boat's", x.measured(1, 400, 0), 1);
        Check.due("without", x.measured(2, 400, 0), -1);
        x.days(2);
        x.certificate(0, 15, 100, 1, 1);
        x.certificate(2, 0, 100, 1, 1);
        Check.due("told late, asked of now", x.measured(0, 17, 2), 4);
        Check.due("told late, not known yet", x.measured(0, 17, 1), 3);
        Check.due("a greater day told early", x.measured(0, 20, 2), 2);
        Check.due("first certificate, not known yet", x.measured(2, 0, 1), -1);
        Check.due("first certificate, known", x.measured(2, 0, 2), 5);
        Check.due("q above", x.measured(0, 20, 3), -1);
        Check.due("q below", x.measured(0, 20, -1), -1);
        Check.due("day above", x.measured(0, 401, 2), -1);
        Check.due("day below", x.measured(0, -1, 2), -1);
        Check.due("no such boat", x.measured(3, 20, 2), -1);
        Check.due("no such boat", x.measured(-1, 20, 2), -1);
    }
}
