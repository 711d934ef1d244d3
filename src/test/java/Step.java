import java.util.Set;

/** One call of a part of src/test/edges, with the answer that is due (null: any). */
record Step(String name, long[] args, Long due) {
    private static final Set<String> QUESTIONS = Set.of("measured", "fault", "force", "number", "coded", "corrected", "placed",
        "points", "thrown", "total", "ranked", "states", "finding", "even", "change", "middle", "fit", "suspect", "lean",
        "draw", "told", "count");

    Step(String name, long... args) {
        this(name, args, null);
    }

    long on(Caller caller) {
        return caller.make(name, args);
    }

    /** Refused, by what is due: NONE, HIDDEN, false or the exception. */
    boolean isRefused() {
        if (due == null) return false;
        if (Caller.answersBoolean(name)) return due == 0;
        return due == UnlikeBoats.NONE || due == UnlikeBoats.HIDDEN || due == Caller.THROWN;
    }

    boolean mayChange() {
        return !isRefused() && !QUESTIONS.contains(name);
    }

    @Override
    public String toString() {
        StringBuilder text = new StringBuilder(name).append('(');
        for (int i = 0; i < args.length; i++) text.append(i > 0 ? ", " : "").append(args[i]);
        return text.append(')').toString();
    }
}
