import java.util.ArrayList;
import java.util.List;

/**
 * A run of calls on a new object, written as lines: "race 0 100 0 0 50 50 -> 0". A line without -> is there for what
 * it does. "16 x boat -> 0 .." stands for sixteen calls with answers that rise from 0. Besides the calls of the face:
 * tape "a text" feeds a text; rules 5 "a text" and fault "a text" put it alone on the TAPE ahead of their call;
 * enters 0 3 enters BOATS 0, 1 and 2 in RACE 0; raced 9 0 7 is a RACE of today by minutes, in which BOATS 0 and 2 come
 * in after so many seconds.
 */
final class Part {
    final String title;
    final List<Step> steps = new ArrayList<>();
    private int races = 0;
    private int now = 0;

    Part(String title) {
        this.title = title;
    }

    void read(String line) {
        int arrow = line.lastIndexOf("->");
        String call = arrow < 0 ? line : line.substring(0, arrow);
        String due = arrow < 0 ? "" : line.substring(arrow + 2).trim();
        String[] words = call.trim().split("\\s+");
        int times = words.length > 1 && words[1].equals("x") ? Integer.parseInt(words[0]) : 1;
        if (words.length > 1 && words[1].equals("x")) call = call.substring(call.indexOf('x') + 1);
        boolean rising = due.endsWith("..");
        Long first = due.isEmpty() ? null : number(rising ? due.substring(0, due.length() - 2).trim() : due);
        for (int i = 0; i < times; i++) {
            Long one = first == null || !rising ? first : Long.valueOf(first + i);
            readCall(call.trim(), one);
        }
    }

    private void readCall(String call, Long due) {
        int quote = call.indexOf('"');
        String text = quote < 0 ? null : call.substring(quote + 1, call.lastIndexOf('"'));
        String[] words = (quote < 0 ? call : call.substring(0, quote)).trim().split("\\s+");
        long[] args = new long[words.length - 1];
        for (int i = 0; i < args.length; i++) args[i] = number(words[i + 1]);
        if (words[0].equals("raced")) addRaced(args, due);
        else if (words[0].equals("enters")) addEnters(args[0], args[1]);
        else if (words[0].equals("tape")) addText(text, due);
        else if (text != null) addOnText(words[0], args, text, due);
        else add(new Step(words[0], args, due));
    }

    private static long number(String word) {
        switch (word) {
            case "NONE": return UnlikeBoats.NONE;
            case "HIDDEN": return UnlikeBoats.HIDDEN;
            case "true": return 1;
            case "false": return 0;
            case "throws": return Caller.THROWN;
            case "MIN": return Integer.MIN_VALUE;
            case "MAX": return Integer.MAX_VALUE;
            case "LEAST": return Long.MIN_VALUE;
            case "MOST": return Long.MAX_VALUE;
            default: return Long.decode(word);
        }
    }

    private void add(Step step) {
        if (!Caller.isCall(step.name(), step.args().length)) {
            throw new IllegalArgumentException(title + ": there is no call " + step);
        }
        boolean taken = !step.isRefused();
        if (step.name().equals("race") && taken) races++;
        if (step.name().equals("days") && taken) now += (int) step.args()[0];
        steps.add(step);
    }

    private void addEnters(long race, long boats) {
        for (int boat = 0; boat < boats; boat++) add(new Step("enter", new long[] {race, boat}, 1L));
    }

    private void addRaced(long[] seconds, Long due) {
        long race = races;
        add(new Step("race", new long[] {now, 100, 0, 0, 50, 50}, due == null ? race : due));
        for (int boat = 0; boat < seconds.length; boat++) {
            if (seconds[boat] == 0) continue;
            add(new Step("enter", new long[] {race, boat}, 1L));
            add(new Step("result", new long[] {race, boat, 0, seconds[boat]}, 1L));
        }
    }

    private void addText(String text, Long due) {
        for (int i = 0; i < text.length(); i += 20) {
            long[] n = new long[5];
            for (int k = 0; k < 20; k++) {
                int one = i + k < text.length() ? text.charAt(i + k) & 255 : 0;
                n[k / 4] = n[k / 4] << 8 | one;
            }
            add(new Step("feed", n, i + 20 >= text.length() ? due : null));
        }
    }

    private void addOnText(String name, long[] args, String text, Long due) {
        add(new Step("end", new long[] {0}, 1L));
        addText(text, null);
        add(new Step(name, args, due));
    }
}
