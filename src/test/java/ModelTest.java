import java.util.NoSuchElementException;
import java.util.Random;

/** Runs of chosen and random calls, each answer compared with Model's. The runs are the same each time. */
public final class ModelTest {
    private static final int CALLS = 512;
    private static final int[] ODD = {-1, -2, Integer.MIN_VALUE, Integer.MAX_VALUE, 16, 20, 30, 31, 32, 64, 80, 200, 300,
        400, 401, 1 << 16, 1 << 20, 1 << 28, -16, 100000, 100001};

    private final Random random;
    private final Texts texts;
    private final UnlikeBoats x = new UnlikeBoats();
    private final Model m = new Model();
    private int calls = 0;
    private String log = "";

    private ModelTest(long seed) {
        random = new Random(seed);
        texts = new Texts(random);
    }

    public static void main(String[] args) {
        int runs = args.length > 0 ? Integer.parseInt(args[0]) : 400;
        int first = args.length > 1 ? Integer.parseInt(args[1]) : 0;
        for (int run = first; run < first + runs && Check.wrongSoFar() == 0; run++) {
            ModelTest test = new ModelTest(run);
            test.run(run % 4);
            if (Check.wrongSoFar() > 0) System.out.println("run " + run + ":" + test.log);
        }
        Check.finish("ModelTest");
    }

    private void run(int kind) {
        setUp(kind);
        while (calls < CALLS && Check.wrongSoFar() == 0) {
            if (upTo(40) == 0) call(0);
            else if (kind == 0) call(upTo(39));
            else if (kind == 1) call(of(3, 6, 11, 13, 14, 14, 15, 16, 17, 18, 19, 20, 21, 22, 22, 38));
            else if (kind == 2) call(of(6, 12, 23, 24, 25, 25, 26, 26, 26, 27, 27, 28, 14, 15, 15, 22, 38));
            else call(of(3, 13, 14, 14, 29, 30, 31, 32, 33, 33, 34, 35, 36, 10));
        }
    }

    private int upTo(int n) {
        return random.nextInt(n);
    }

    private int of(int... all) {
        return all[upTo(all.length)];
    }

    private void setUp(int kind) {
        int boats = 2 + upTo(kind == 0 ? 15 : 5);
        for (int i = 0; i < boats; i++) call(2);
        int rules = upTo(4);
        for (int i = 0; i < rules; i++) {
            feed(i == 0 && kind > 0 ? texts.whole() : texts.good());
            due("rules(0)", x.rules(0), m.rules(0));
        }
        if (upTo(2) == 0) call(0);
        for (int i = 0; i < boats; i++) {
            int[] n = {upTo(boats), upTo(2) * upTo(20), 10 + upTo(391), 1 + upTo(400), 1 + upTo(300)};
            due("certificate" + list(n), x.certificate(n[0], n[1], n[2], n[3], n[4]), m.certificate(n[0], n[1], n[2], n[3], n[4]));
        }
        int races = kind == 2 ? 1 + upTo(2) : kind == 3 ? 4 + upTo(8) : 2 + upTo(7);
        for (int r = 0; r < races; r++) {
            race(upTo(m.now + 1), upTo(4) == 0 ? 1 : 0);
            for (int b = 0; b < boats; b++) {
                if (upTo(8) == 0) continue;
                due("enter(" + r + ", " + b + ")", x.enter(r, b) ? 1 : 0, m.enter(r, b) ? 1 : 0);
                if (kind == 2 || upTo(5) == 0) continue;
                int seconds = seconds();
                due("result(" + r + ", " + b + ", 0, " + seconds + ")", x.result(r, b, 0, seconds) ? 1 : 0, m.result(r, b, 0, seconds) ? 1 : 0);
            }
            if (upTo(3) == 0) call(0);
            if (kind == 2) meet(r, boats);
        }
    }

    /** All BOATS come near one another at second 10, and some protest. */
    private void meet(int r, int boats) {
        for (int b = 0; b < boats; b++) {
            int[] n = {r, b, 10, 40 + upTo(3), 50 + upTo(3), upTo(4), upTo(3) == 0 ? 1 << upTo(8) : 1 + upTo(255)};
            due("word" + list(n), x.word(n[0], n[1], n[2], n[3], n[4], n[5], n[6]), m.word(n[0], n[1], n[2], n[3], n[4], n[5], n[6]));
        }
        for (int i = 0; i < 3; i++) {
            int[] n = {r, upTo(boats), upTo(boats), 10};
            due("protest" + list(n), x.protest(n[0], n[1], n[2], n[3]), m.protest(n[0], n[1], n[2], n[3]));
        }
    }

    private static String list(int... n) {
        StringBuilder all = new StringBuilder("(");
        for (int i = 0; i < n.length; i++) all.append(i > 0 ? ", " : "").append(n[i]);
        return all.append(")").toString();
    }

    private void due(String call, long got, long want) {
        calls++;
        log += "\n  " + call + " -> " + want;
        Check.due(call, got, want);
    }

    private int odd() {
        return upTo(3) == 0 ? random.nextInt() : of(ODD);
    }

    private int number(int least, int most) {
        int way = upTo(40);
        if (way == 0) return odd();
        if (way == 1) return upTo(2) == 0 ? least - 1 : most + 1;
        if (way == 2) return upTo(2) == 0 ? least : most;
        return most < least ? least : least + upTo(most - least + 1);
    }

    private int aBoat() {
        return number(0, m.boats - 1);
    }

    private int aRace() {
        return number(0, m.races.size() - 1);
    }

    private int aProtest() {
        return number(0, m.protests.size() - 1);
    }

    /** Mostly one of the last days, since most was told then. */
    private int q() {
        return upTo(3) == 0 ? number(0, m.now) : number(m.now, m.now);
    }

    private int day() {
        return upTo(8) == 0 ? number(0, 400) : number(0, Math.min(400, m.now + 3));
    }

    private int seconds() {
        int way = upTo(12);
        if (way == 0) return 1 + upTo(5);
        if (way == 1) return 200000 - upTo(3);
        return way < 6 ? 995 + upTo(10) : 800 + upTo(400);
    }

    private void race(int day, int way) {
        int[] n = {day, number(1, 1000), way, number(0, 7), number(0, 99), number(0, 99)};
        due("race" + list(n), x.race(n[0], n[1], n[2], n[3], n[4], n[5]), m.race(n[0], n[1], n[2], n[3], n[4], n[5]));
    }

    /** Feeds a text with bytes of 0 here and there. */
    private void feed(String text) {
        due("end(0)", x.end(0) ? 1 : 0, m.end(0) ? 1 : 0);
        int at = 0;
        while (at < text.length() && calls < CALLS) {
            int[] n = new int[5];
            for (int k = 0; k < 20; k++) {
                int one = at < text.length() && upTo(12) != 0 ? text.charAt(at++) : 0;
                n[k / 4] = n[k / 4] << 8 | one;
            }
            due("feed" + list(n), x.feed(n[0], n[1], n[2], n[3], n[4]), m.feed(n));
        }
    }

    private void call(int what) {
        if (what < 12) callOfPapers(what);
        else if (what < 23) callOfRaces(what);
        else if (what < 29) callOfProtests(what);
        else callOfOffice(what);
    }

    private void callOfPapers(int what) {
        int[] n = {aBoat(), day(), q(), number(1, 4000), number(1, 900)};
        switch (what) {
            case 0: {
                int days = upTo(30) == 0 ? number(0, 400) : upTo(3);
                due("days(" + days + ")", x.days(days), m.days(days));
                break;
            }
            case 1:
            case 2: due("boat()", x.boat(), m.boat()); break;
            case 3: {
                int lon = number(10, 400);
                due("certificate" + list(n[0], n[1], lon, n[3], n[4]), x.certificate(n[0], n[1], lon, n[3], n[4]), m.certificate(n[0], n[1], lon, n[3], n[4]));
                break;
            }
            case 4: due("measured" + list(n[0], n[1], n[2]), x.measured(n[0], n[1], n[2]), m.measured(n[0], n[1], n[2])); break;
            case 5: {
                int[] f = {random.nextInt(), odd(), 0, random.nextInt(), 0x6e3a6c00};
                due("feed" + list(f), x.feed(f[0], f[1], f[2], f[3], f[4]), m.feed(f));
                break;
            }
            case 6:
                feed(upTo(2) == 0 ? texts.good() : texts.spoilt());
                due("fault()", x.fault(), m.fault());
                if (upTo(3) > 0) due("rules(" + n[1] + ")", x.rules(n[1]), m.rules(n[1]));
                break;
            case 7: due("fault()", x.fault(), m.fault()); break;
            case 8: {
                int end = number(0, m.tape.length());
                due("end(" + end + ")", x.end(end) ? 1 : 0, m.end(end) ? 1 : 0);
                break;
            }
            case 9: due("rules(" + n[1] + ")", x.rules(n[1]), m.rules(n[1])); break;
            case 10: due("force" + list(n[1], n[2]), x.force(n[1], n[2]), m.force(n[1], n[2])); break;
            default: due("number" + list(n[0], n[1], n[2]), x.number(n[0], n[1], n[2]), m.number(n[0], n[1], n[2])); break;
        }
    }

    private void callOfRaces(int what) {
        int r = aRace();
        int b = aBoat();
        int q = q();
        switch (what) {
            case 12: {
                int far = number(1, 9);
                due("swift" + list(r, far), x.swift(r, far) ? 1 : 0, m.swift(r, far) ? 1 : 0);
                break;
            }
            case 13: {
                if (upTo(3) == 0) race(number(0, m.now), number(0, 1));
                due("enter" + list(r, b), x.enter(r, b) ? 1 : 0, m.enter(r, b) ? 1 : 0);
                break;
            }
            case 14: {
                int code = upTo(3) > 0 ? 0 : number(0, 4);
                int seconds = upTo(30) == 0 ? number(0, 200000) : code == 0 ? seconds() : 0;
                due("result" + list(r, b, code, seconds), x.result(r, b, code, seconds) ? 1 : 0, m.result(r, b, code, seconds) ? 1 : 0);
                break;
            }
            case 15: due("coded" + list(r, b, q), x.coded(r, b, q), m.coded(r, b, q)); break;
            case 16: due("corrected" + list(r, b, q), x.corrected(r, b, q), m.corrected(r, b, q)); break;
            case 17: due("placed" + list(r, b, q), x.placed(r, b, q), m.placed(r, b, q)); break;
            case 18: due("redress" + list(r, b), x.redress(r, b) ? 1 : 0, m.redress(r, b) ? 1 : 0); break;
            case 19: due("points" + list(r, b, q), x.points(r, b, q), m.points(r, b, q)); break;
            case 20: due("thrown" + list(r, b, q), x.thrown(r, b, q), m.thrown(r, b, q)); break;
            case 21: due("total" + list(b, q), x.total(b, q), m.total(b, q)); break;
            default: {
                int i = number(0, m.boats);
                due("ranked" + list(i, q), x.ranked(i, q), m.ranked(i, q));
                break;
            }
        }
    }

    private void callOfProtests(int what) {
        int r = aRace();
        int p = aProtest();
        int q = q();
        int who = number(0, 1);
        int second = upTo(20) == 0 ? number(0, 100000) : upTo(5) == 0 ? 8 + upTo(5) : 10;
        switch (what) {
            case 23: {
                int ahead = upTo(3) == 0 ? 0 : second - 10;
                int size = second == 10 ? 2 + upTo(2) : number(0, 3);
                int[] n = {r, aBoat(), second, number(39 + ahead, 41 + ahead), number(49 - ahead, 51 - ahead), size,
                    upTo(2) == 0 ? 255 : upTo(3) == 0 ? number(1, 255) : 255 & ~(1 << upTo(8))};
                due("word" + list(n), x.word(n[0], n[1], n[2], n[3], n[4], n[5], n[6]), m.word(n[0], n[1], n[2], n[3], n[4], n[5], n[6]));
                break;
            }
            case 24: {
                int[] n = {r, aBoat(), aBoat(), second};
                due("protest" + list(n), x.protest(n[0], n[1], n[2], n[3]), m.protest(n[0], n[1], n[2], n[3]));
                break;
            }
            case 25: due("states" + list(p, who, q), x.states(p, who, q), m.states(p, who, q)); break;
            case 26: due("finding" + list(p, who, q), x.finding(p, who, q), m.finding(p, who, q)); break;
            case 27: due("decide(" + p + ")", x.decide(p), m.decide(p)); break;
            default: due("reopen(" + p + ")", x.reopen(p) ? 1 : 0, m.reopen(p) ? 1 : 0); break;
        }
    }

    private int some() {
        if (upTo(12) == 0) return odd();
        int bits = 0;
        int size = upTo(12) == 0 ? upTo(6) : 2 + upTo(3);
        for (int i = 0; i < size && m.boats > 0; i++) bits |= 1 << upTo(m.boats);
        return bits;
    }

    private void callOfOffice(int what) {
        int r = aRace();
        int b = aBoat();
        int bits = some();
        switch (what) {
            case 29: due("even(" + bits + ")", x.even(bits), m.even(bits)); break;
            case 30: due("change" + list(bits, b), x.change(bits, b), m.change(bits, b)); break;
            case 31: due("middle" + list(r, b), x.middle(r, b), m.middle(r, b)); break;
            case 32: due("fit(" + b + ")", x.fit(b), m.fit(b)); break;
            case 33: {
                int of = number(0, 1);
                due("suspect" + list(b, of), x.suspect(b, of), m.suspect(b, of));
                break;
            }
            case 34: {
                int[] n = {r, b, number(0, 9), upTo(3) == 0 ? number(0, 600) : upTo(5)};
                due("start" + list(n), x.start(n[0], n[1], n[2], n[3]) ? 1 : 0, m.start(n[0], n[1], n[2], n[3]) ? 1 : 0);
                break;
            }
            case 35: due("lean(" + r + ")", x.lean(r), m.lean(r)); break;
            case 36: {
                int n = number(1, m.boats);
                long seed = upTo(2) == 0 ? random.nextLong() : upTo(100);
                due("draw(" + n + ", " + seed + ")", x.draw(n, seed), m.draw(n, seed));
                break;
            }
            case 37: {
                int of = number(0, 8);
                due("told" + list(r, of), toldOf(r, of), m.told(r, of));
                break;
            }
            default: {
                int of = number(0, 10);
                due("count(" + of + ")", x.count(of), m.count(of));
                break;
            }
        }
    }

    private int toldOf(int r, int what) {
        try {
            return x.told(r, what);
        } catch (NoSuchElementException e) {
            return -1;
        }
    }
}
