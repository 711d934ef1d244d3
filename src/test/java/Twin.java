import java.util.ArrayList;
import java.util.Arrays;
import java.util.List;

/**
 * Whether a call changes something: two objects are told the same, one of them is given that call besides, and both
 * are asked all that may be asked, at once and after more was told. New objects are taken for so many questions as
 * may still be asked of one.
 */
final class Twin {
    // What makes use of all that may be kept: flags that say that something was told once, the TAPE, all numbers.
    private static final List<Step> MORE = List.of(new Step("fault"), new Step("rules", 0), new Step("boat"),
        new Step("certificate", 0, 0, 77, 7, 7), new Step("race", 0, 50, 0, 3, 20, 30), new Step("enter", 0, 0),
        new Step("enter", 0, 1), new Step("start", 0, 0, 1, 5), new Step("result", 0, 0, 0, 777), new Step("redress", 0, 0),
        new Step("redress", 0, 1), new Step("swift", 0, 7), new Step("word", 0, 0, 10, 20, 20, 1, 255),
        new Step("word", 0, 1, 10, 22, 20, 0, 255), new Step("protest", 0, 0, 1, 10), new Step("decide", 0),
        new Step("reopen", 0), new Step("decide", 0), new Step("reopen", 0), new Step("decide", 1), new Step("days", 1),
        new Step("feed", 0x6e3a3535, 0x30000000, 0, 0, 0), new Step("rules", 0));

    private final List<Step> told;
    private long[] now;
    private long[] later;

    Twin(List<Step> told) {
        this.told = new ArrayList<>(told);
    }

    /** Whether an object that is given that call too answers as one without. */
    boolean isUnchangedBy(Step call) {
        if (now == null) {
            now = answers(null, List.of());
            later = answers(null, MORE);
        }
        return Arrays.equals(now, answers(call, List.of())) && Arrays.equals(later, answers(call, MORE));
    }

    private Caller begun(Step call) {
        Caller caller = new Caller();
        for (Step step : told) step.on(caller);
        if (call != null) call.on(caller);
        return caller;
    }

    private long[] answers(Step call, List<Step> more) {
        List<Step> questions = null;
        List<Long> all = new ArrayList<>();
        int at = 0;
        while (questions == null || at < questions.size()) {
            Caller caller = begun(call);
            for (Step step : more) all.add(step.on(caller));
            if (questions == null) questions = questionsFor(caller);
            // One call is left for the twin that is given one more.
            int room = Caller.MOST_CALLS - 1 - told.size() - more.size() - (at == 0 ? 4 : 0);
            if (room < 1) throw new IllegalStateException("a part is too long to ask behind it");
            for (int i = 0; i < room && at < questions.size(); i++) {
                all.add(questions.get(at).on(caller));
                at++;
            }
        }
        long[] row = new long[all.size()];
        for (int i = 0; i < row.length; i++) row[i] = all.get(i);
        return row;
    }

    private static List<Step> questionsFor(Caller caller) {
        int now = (int) caller.make("count", 0);
        int[] boats = ends((int) caller.make("count", 1), 4);
        int[] races = ends((int) caller.make("count", 4), 3);
        int[] protests = ends((int) caller.make("count", 7), 2);
        int[] days = now < 2 ? ends(now + 1, 2) : new int[] {0, now - 1, now};
        List<Step> all = new ArrayList<>();
        for (int what = 0; what <= 10; what++) all.add(new Step("count", what));
        all.add(new Step("fault"));
        for (int race : races) askOfRace(all, race, boats, days);
        for (int boat : boats) askOfBoat(all, boat, days, now);
        for (int protest : protests) askOfProtest(all, protest, days);
        for (int q : days) {
            for (int i = 0; i < boats.length; i++) all.add(new Step("ranked", i, q));
            all.add(new Step("force", 0, q));
            all.add(new Step("force", 400, q));
        }
        for (int n = 1; n <= 2; n++) all.add(new Step("draw", n, 77));
        all.add(new Step("even", 3));
        for (int boat = 0; boat < 3; boat++) all.add(new Step("change", 7, boat));
        return all;
    }

    /** The first ones and the last one of so many. */
    private static int[] ends(int size, int first) {
        int[] all = new int[Math.min(size, first + 1)];
        for (int i = 0; i < all.length; i++) all[i] = i;
        if (size > first) all[first] = size - 1;
        return all;
    }

    private static void askOfRace(List<Step> all, int race, int[] boats, int[] days) {
        for (int what = 0; what <= 8; what++) all.add(new Step("told", race, what));
        all.add(new Step("lean", race));
        for (int boat : boats) {
            all.add(new Step("middle", race, boat));
            for (int q : days) {
                for (String name : new String[] {"coded", "corrected", "placed", "points", "thrown"}) {
                    all.add(new Step(name, race, boat, q));
                }
            }
        }
    }

    private static void askOfBoat(List<Step> all, int boat, int[] days, int now) {
        all.add(new Step("fit", boat));
        all.add(new Step("suspect", boat, 0));
        all.add(new Step("suspect", boat, 1));
        for (int q : days) {
            all.add(new Step("total", boat, q));
            for (int day : new int[] {0, now, 400}) {
                all.add(new Step("measured", boat, day, q));
                all.add(new Step("number", boat, day, q));
            }
        }
    }

    private static void askOfProtest(List<Step> all, int protest, int[] days) {
        for (int q : days) {
            for (int who = 0; who < 2; who++) {
                all.add(new Step("states", protest, who, q));
                all.add(new Step("finding", protest, who, q));
            }
        }
    }
}
