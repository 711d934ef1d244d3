import java.util.NoSuchElementException;

/** What all tests use: counts answers that are not as due, and makes an object's TAPE from a text. */
final class Check {
    private static int right = 0;
    private static int wrong = 0;

    private Check() {
    }

    static void due(String call, long got, long want) {
        if (got == want) {
            right++;
            return;
        }
        wrong++;
        if (wrong <= 40) System.out.println(call + " answered " + got + ", due is " + want);
    }

    static void due(String call, boolean got, boolean want) {
        due(call, got ? 1 : 0, want ? 1 : 0);
    }

    /** told() must throw what the document names, and itself. */
    static void dueNothing(UnlikeBoats x, int race, int what) {
        boolean thrown = false;
        try {
            x.told(race, what);
        } catch (NoSuchElementException e) {
            thrown = e.getClass() == NoSuchElementException.class;
        }
        due("told(" + race + ", " + what + ") throws", thrown, true);
    }

    static int wrongSoFar() {
        return wrong;
    }

    static void finish(String name) {
        System.out.println(name + ": " + right + " right, " + wrong + " wrong");
        if (wrong != 0 || right == 0) System.exit(1);
    }

    /** Puts a text behind what the TAPE has: how many bytes it has then. */
    static int feed(UnlikeBoats x, String text) {
        int has = x.count(8);
        for (int i = 0; i < text.length(); i += 20) {
            int[] n = new int[5];
            for (int k = 0; k < 20; k++) {
                int one = i + k < text.length() ? text.charAt(i + k) & 255 : 0;
                n[k / 4] = n[k / 4] << 8 | one;
            }
            has = x.feed(n[0], n[1], n[2], n[3], n[4]);
        }
        return has;
    }

    static int faultOf(String text) {
        UnlikeBoats x = new UnlikeBoats();
        feed(x, text);
        return x.fault();
    }

    static int rules(UnlikeBoats x, int from, String text) {
        x.end(0);
        feed(x, text);
        return x.rules(from);
    }

    static UnlikeBoats fleet(int boats) {
        UnlikeBoats x = new UnlikeBoats();
        for (int i = 0; i < boats; i++) x.boat();
        return x;
    }

    /** A RACE of today by minutes in which BOATS 0 .. are entered and finish with these seconds; 0 leaves one out. */
    static int raced(UnlikeBoats x, int... seconds) {
        int race = x.race(x.count(0), 100, 0, 0, 50, 50);
        for (int boat = 0; boat < seconds.length; boat++) {
            if (seconds[boat] == 0) continue;
            x.enter(race, boat);
            x.result(race, boat, 0, seconds[boat]);
        }
        return race;
    }
}
