import java.math.BigInteger;
import java.util.ArrayList;
import java.util.HashMap;
import java.util.LinkedHashSet;
import java.util.List;
import java.util.Map;
import java.util.Set;
import java.util.TreeMap;

/**
 * The document once more, written as plainly as can be and as unlike the program as can be: TEXTS are read by all
 * stacks that the grammar allows and worked out on the text itself, STATES and pairs are tried one by one, and nothing
 * is kept but what was told.
 */
final class Model {
    static final int NONE = -1;
    static final int HIDDEN = -1000000000;

    record Certificate(int boat, int from, int told, int lon, int area, int weight) {
    }

    record Law(int from, int told, String text) {
    }

    record Result(int race, int boat, int code, int seconds, int told) {
    }

    record Word(int race, int boat, int second, int x, int y, int size, int directions, int told) {
    }

    record State(int x, int y, int way) {
    }

    /** DAY 0 decided, 1 reopened, 2 decided anew; who by each decision. */
    record Protest(int race, int a, int b, int second, int told, List<int[]> events) {
    }

    static final class Race {
        int day, miles, way, wind, x, y, told;
        final TreeMap<Integer, Integer> entered = new TreeMap<>();
        final TreeMap<Integer, Integer> redressed = new TreeMap<>();
        final TreeMap<Integer, int[]> starts = new TreeMap<>();
        final TreeMap<Integer, Integer> swift = new TreeMap<>();
    }

    int now = 0;
    int boats = 0;
    String tape = "";
    final List<Certificate> certificates = new ArrayList<>();
    final List<Law> laws = new ArrayList<>();
    final List<Race> races = new ArrayList<>();
    final List<Result> results = new ArrayList<>();
    final List<Word> words = new ArrayList<>();
    final List<Protest> protests = new ArrayList<>();
    int redresses = 0;

    private static boolean in(long n, long low, long high) {
        return low <= n && n <= high;
    }

    boolean knows(int q) {
        return in(q, 0, now);
    }

    boolean hasBoat(int b) {
        return in(b, 0, boats - 1);
    }

    boolean hasRace(int r) {
        return in(r, 0, races.size() - 1);
    }

    boolean isIn(int r, int b) {
        return hasRace(r) && hasBoat(b) && races.get(r).entered.containsKey(b);
    }

    boolean isIn(int r, int b, int q) {
        return isIn(r, b) && races.get(r).entered.get(b) <= q;
    }

    boolean counts(int r, int q) {
        return knows(q) && hasRace(r) && races.get(r).told <= q;
    }

    // The TEXT.

    private static final Map<Character, String[]> GRAMMAR = new HashMap<>();

    static {
        GRAMMAR.put('T', new String[] {"CQ"});
        GRAMMAR.put('Q', new String[] {";CQ", ""});
        GRAMMAR.put('C', new String[] {"X:B"});
        GRAMMAR.put('B', new String[] {"S", "N?S"});
        GRAMMAR.put('N', new String[] {"PV"});
        GRAMMAR.put('V', new String[] {"|PV", ""});
        GRAMMAR.put('P', new String[] {"UW"});
        GRAMMAR.put('W', new String[] {"&UW", ""});
        GRAMMAR.put('U', new String[] {"!UE", "(N)", "SYS"});
        GRAMMAR.put('E', new String[] {""});
        GRAMMAR.put('S', new String[] {"MI"});
        GRAMMAR.put('I', new String[] {"+MI", "-MI", ""});
        GRAMMAR.put('M', new String[] {"AJ"});
        GRAMMAR.put('J', new String[] {"*AJ", "/AJ", ""});
        GRAMMAR.put('A', new String[] {"G\4", "L", "[S]"});
        for (char left = 4; left >= 1; left--) {
            GRAMMAR.put(left, new String[] {left == 1 ? "G" : "G" + (char) (left - 1), ""});
        }
    }

    private static void expand(String stack, Set<String> all) {
        String[] ways = stack.isEmpty() ? null : GRAMMAR.get(stack.charAt(0));
        if (ways == null) {
            all.add(stack);
            return;
        }
        for (String way : ways) expand(way + stack.substring(1), all);
    }

    private static boolean fits(char symbol, char one) {
        switch (symbol) {
            case 'X': return "nptab".indexOf(one) >= 0;
            case 'G': return one >= '0' && one <= '9';
            case 'L': return "lswkrefcdghumo".indexOf(one) >= 0;
            case 'Y': return one == '=' || one == '<' || one == '>';
            default: return symbol == one;
        }
    }

    private static boolean tooDeep(String stack) {
        int depth = 0;
        for (char c : stack.toCharArray()) {
            if (c == ')' || c == ']' || c == 'E') depth++;
        }
        return depth > 8;
    }

    static int faultIn(String text) {
        Set<String> stacks = new LinkedHashSet<>();
        stacks.add("T");
        for (int i = 0; i < text.length(); i++) {
            char one = text.charAt(i);
            Set<String> then = new LinkedHashSet<>();
            for (String stack : stacks) {
                if (one == ' ') {
                    boolean number = !stack.isEmpty() && stack.charAt(0) <= 4;
                    then.add(number ? stack.substring(1) : stack);
                    continue;
                }
                Set<String> all = new LinkedHashSet<>();
                expand(stack, all);
                for (String s : all) {
                    if (s.isEmpty() || !fits(s.charAt(0), one) || tooDeep(s)) continue;
                    then.add(s.substring(1));
                }
            }
            if (then.isEmpty()) return i;
            stacks = then;
        }
        for (String stack : stacks) {
            Set<String> all = new LinkedHashSet<>();
            expand(stack, all);
            if (all.contains("")) return NONE;
        }
        return text.length();
    }

    private static List<String> split(String text, String signs, boolean last) {
        int depth = 0;
        List<String> parts = new ArrayList<>();
        int at = -1;
        int from = 0;
        for (int i = 0; i < text.length(); i++) {
            char c = text.charAt(i);
            if (c == '(' || c == '[') depth++;
            if (c == ')' || c == ']') depth--;
            if (depth > 0 || signs.indexOf(c) < 0) continue;
            if (last) {
                at = i;
            } else {
                parts.add(text.substring(from, i));
                from = i + 1;
            }
        }
        if (!last) {
            parts.add(text.substring(from));
        } else if (at >= 0) {
            parts.add(text.substring(0, at));
            parts.add(text.substring(at, at + 1));
            parts.add(text.substring(at + 1));
        }
        return parts;
    }

    private static long sum(String s, Map<Character, Integer> letters) {
        List<String> parts = split(s, "+-", true);
        if (parts.isEmpty()) parts = split(s, "*/", true);
        if (parts.isEmpty()) {
            char c = s.charAt(0);
            if (c == '[') return sum(s.substring(1, s.length() - 1), letters);
            if (c >= '0' && c <= '9') return Long.parseLong(s);
            return letters.getOrDefault(c, 0);
        }
        long a = sum(parts.get(0), letters);
        long b = sum(parts.get(2), letters);
        long n;
        switch (parts.get(1).charAt(0)) {
            case '+': n = a + b; break;
            case '-': n = a - b; break;
            case '*': n = a * b; break;
            default: n = b == 0 ? 0 : a / b; break;
        }
        return Math.max(-10000000L, Math.min(10000000L, n));
    }

    private static boolean holds(String s, Map<Character, Integer> letters) {
        List<String> parts = split(s, "|", false);
        if (parts.size() > 1) {
            boolean some = false;
            for (String part : parts) some |= holds(part, letters);
            return some;
        }
        parts = split(s, "&", false);
        if (parts.size() > 1) {
            boolean all = true;
            for (String part : parts) all &= holds(part, letters);
            return all;
        }
        if (s.charAt(0) == '!') return !holds(s.substring(1), letters);
        if (s.charAt(0) == '(') return holds(s.substring(1, s.length() - 1), letters);
        parts = split(s, "=<>", true);
        long a = sum(parts.get(0), letters);
        long b = sum(parts.get(2), letters);
        return parts.get(1).equals("=") ? a == b : parts.get(1).equals("<") ? a < b : a > b;
    }

    static int worth(String text, char label, Map<Character, Integer> letters) {
        for (String clause : text.replace(" ", "").split(";")) {
            if (clause.charAt(0) != label) continue;
            String body = clause.substring(2);
            int q = body.indexOf('?');
            if (q < 0) return (int) sum(body, letters);
            if (holds(body.substring(0, q), letters)) return (int) sum(body.substring(q + 1), letters);
        }
        return label == 'n' ? 1000 : 0;
    }

    // Promises 2 to 11.

    int days(int n) {
        if (!in(n, 0, 400) || now + n > 400) return NONE;
        return now += n;
    }

    int boat() {
        return boats == 16 ? NONE : boats++;
    }

    int certificate(int b, int from, int lon, int area, int weight) {
        if (!hasBoat(b) || !in(from, 0, 400) || !in(lon, 10, 400) || !in(area, 1, 4000) || !in(weight, 1, 900)) return NONE;
        if (certificates.size() == 80) return NONE;
        certificates.add(new Certificate(b, from, now, lon, area, weight));
        return certificates.size() - 1;
    }

    int measured(int b, int day, int q) {
        if (!hasBoat(b) || !in(day, 0, 400) || !knows(q)) return NONE;
        for (int from = day; from >= 0; from--) {
            for (int i = certificates.size() - 1; i >= 0; i--) {
                Certificate c = certificates.get(i);
                if (c.boat == b && c.from == from && c.told <= q) return i;
            }
        }
        return NONE;
    }

    int feed(int... numbers) {
        StringBuilder more = new StringBuilder(tape);
        for (int n : numbers) {
            for (String hex = String.format("%08x", n); !hex.isEmpty(); hex = hex.substring(2)) {
                int one = Integer.parseInt(hex.substring(0, 2), 16);
                if (one != 0) more.append((char) one);
            }
        }
        if (more.length() > 200) return NONE;
        tape = more.toString();
        return tape.length();
    }

    boolean end(int n) {
        if (!in(n, 0, tape.length())) return false;
        tape = tape.substring(0, n);
        return true;
    }

    int fault() {
        return faultIn(tape);
    }

    int rules(int from) {
        if (fault() != NONE || !in(from, 0, 400) || laws.size() == 16) return NONE;
        laws.add(new Law(from, now, tape));
        tape = "";
        return laws.size() - 1;
    }

    int force(int day, int q) {
        if (!in(day, 0, 400) || !knows(q)) return NONE;
        for (int from = day; from >= 0; from--) {
            for (int i = laws.size() - 1; i >= 0; i--) {
                if (laws.get(i).from == from && laws.get(i).told <= q) return i;
            }
        }
        return NONE;
    }

    private int worthOn(int day, int q, char label, Map<Character, Integer> letters) {
        int law = force(day, q);
        return law == NONE ? 0 : worth(laws.get(law).text, label, letters);
    }

    int number(int b, int day, int q) {
        if (!hasBoat(b) || !in(day, 0, 400) || !knows(q)) return NONE;
        int paper = measured(b, day, q);
        if (paper == NONE || force(day, q) == NONE) return 1000;
        Certificate c = certificates.get(paper);
        int n = worthOn(day, q, 'n', Map.of('l', c.lon, 's', c.area, 'w', c.weight));
        return Math.max(500, Math.min(2000, n));
    }

    // Promises 12 to 18.

    int race(int day, int miles, int way, int wind, int x, int y) {
        if (!in(day, 0, now) || !in(miles, 1, 1000) || !in(way, 0, 1) || !in(wind, 0, 7)) return NONE;
        if (!in(x, 0, 99) || !in(y, 0, 99) || races.size() == 20) return NONE;
        Race r = new Race();
        r.day = day;
        r.miles = miles;
        r.way = way;
        r.wind = wind;
        r.x = x;
        r.y = y;
        r.told = now;
        races.add(r);
        return races.size() - 1;
    }

    boolean swift(int r, int far) {
        if (!hasRace(r) || !in(far, 1, 9)) return false;
        races.get(r).swift.put(now, far);
        return true;
    }

    private int swiftIn(int r, int q) {
        Map.Entry<Integer, Integer> last = races.get(r).swift.floorEntry(q);
        return last == null ? 2 : last.getValue();
    }

    boolean enter(int r, int b) {
        if (!hasRace(r) || !hasBoat(b) || isIn(r, b)) return false;
        races.get(r).entered.put(b, now);
        return true;
    }

    boolean result(int r, int b, int code, int seconds) {
        if (!isIn(r, b) || !in(code, 0, 4) || results.size() == 300) return false;
        if (code == 0 ? !in(seconds, 1, 200000) : seconds != 0) return false;
        results.add(new Result(r, b, code, seconds, now));
        return true;
    }

    private Result lastOf(int r, int b, int q) {
        for (int i = results.size() - 1; i >= 0; i--) {
            Result one = results.get(i);
            if (one.race == r && one.boat == b && one.told <= q) return one;
        }
        return null;
    }

    boolean disqualified(int r, int b, int q) {
        for (Protest p : protests) {
            if (p.race != r || p.a != b && p.b != b) continue;
            int who = 0;
            for (int[] event : p.events) {
                if (event[0] <= q) who = event[1];
            }
            if ((p.a == b ? who & 1 : who & 2) != 0) return true;
        }
        return false;
    }

    int coded(int r, int b, int q) {
        if (!counts(r, q) || !isIn(r, b, q)) return NONE;
        if (disqualified(r, b, q)) return 5;
        Result last = lastOf(r, b, q);
        return last == null ? 2 : last.code;
    }

    int corrected(int r, int b, int q) {
        if (coded(r, b, q) != 0) return HIDDEN;
        Race race = races.get(r);
        long seconds = lastOf(r, b, q).seconds;
        long number = number(b, race.day, q);
        return (int) (race.way == 0 ? seconds * number / 1000 : seconds + (number - 1000) * race.miles / 10);
    }

    int placed(int r, int b, int q) {
        int mine = corrected(r, b, q);
        if (mine == HIDDEN) return NONE;
        List<Integer> all = new ArrayList<>();
        for (int other = 0; other < boats; other++) {
            int time = corrected(r, other, q);
            if (time != HIDDEN) all.add(time);
        }
        all.sort(null);
        return (all.indexOf(mine) + 1 + all.lastIndexOf(mine) + 1) * 10 / 2;
    }

    // Promises 19 to 23.

    boolean redress(int r, int b) {
        if (!isIn(r, b) || races.get(r).redressed.containsKey(b) || redresses == 20) return false;
        races.get(r).redressed.put(b, now);
        redresses++;
        return true;
    }

    private int plain(int r, int b, int q) {
        int entered = 0;
        int finished = 0;
        for (int other = 0; other < boats; other++) {
            if (isIn(r, other, q)) entered++;
            if (coded(r, other, q) == 0) finished++;
        }
        int code = isIn(r, b, q) ? coded(r, b, q) : 2;
        int place = code == 0 ? placed(r, b, q) : 0;
        int p = worthOn(races.get(r).day, q, 'p', Map.of('k', code, 'r', place, 'e', entered, 'f', finished));
        return Math.max(0, Math.min(10000, p));
    }

    private boolean redressed(int r, int b, int q) {
        Integer day = races.get(r).redressed.get(b);
        return day != null && day <= q;
    }

    int points(int r, int b, int q) {
        if (!counts(r, q) || !hasBoat(b)) return NONE;
        if (!redressed(r, b, q)) return plain(r, b, q);
        int sum = 0;
        int n = 0;
        for (int other = 0; other < races.size(); other++) {
            if (other == r || !counts(other, q) || redressed(other, b, q)) continue;
            sum += plain(other, b, q);
            n++;
        }
        return n == 0 ? 0 : sum / n;
    }

    private boolean scored(int b, int q) {
        for (int r = 0; r < races.size(); r++) {
            if (counts(r, q) && isIn(r, b, q)) return true;
        }
        return false;
    }

    /** The points of a BOAT in all RACES that count, and whether each is thrown out (1). */
    private int[][] card(int b, int q) {
        int counted = 0;
        for (int r = 0; r < races.size(); r++) {
            if (counts(r, q)) counted++;
        }
        int[][] card = new int[2][counted];
        List<Integer> worst = new ArrayList<>();
        for (int r = 0; r < counted; r++) {
            card[0][r] = points(r, b, q);
            worst.add(r);
        }
        worst.sort((a, c) -> card[0][a] != card[0][c] ? card[0][c] - card[0][a] : c - a);
        int outs = worthOn(q, q, 't', Map.of('c', counted));
        for (int i = 0; i < outs && i < counted - 1; i++) card[1][worst.get(i)] = 1;
        return card;
    }

    private static int totalOf(int[][] card) {
        int sum = 0;
        for (int r = 0; r < card[0].length; r++) sum += card[1][r] == 1 ? 0 : card[0][r];
        return sum;
    }

    int thrown(int r, int b, int q) {
        if (!counts(r, q) || !hasBoat(b) || !scored(b, q)) return NONE;
        return card(b, q)[1][r];
    }

    int total(int b, int q) {
        if (!hasBoat(b) || !knows(q) || !scored(b, q)) return NONE;
        return totalOf(card(b, q));
    }

    private static List<Integer> kept(int[][] card) {
        List<Integer> kept = new ArrayList<>();
        for (int r = 0; r < card[0].length; r++) {
            if (card[1][r] == 0) kept.add(card[0][r]);
        }
        kept.sort(null);
        return kept;
    }

    private static int compare(int[][] a, int[][] b) {
        if (totalOf(a) != totalOf(b)) return totalOf(a) - totalOf(b);
        List<Integer> mine = kept(a);
        List<Integer> theirs = kept(b);
        for (int i = 0; i < mine.size(); i++) {
            if (!mine.get(i).equals(theirs.get(i))) return mine.get(i) - theirs.get(i);
        }
        for (int r = a[0].length - 1; r >= 0; r--) {
            if (a[0][r] != b[0][r]) return a[0][r] - b[0][r];
        }
        return 0;
    }

    int ranked(int i, int q) {
        if (!knows(q) || i < 0) return NONE;
        List<Integer> order = new ArrayList<>();
        Map<Integer, int[][]> cards = new HashMap<>();
        for (int b = 0; b < boats; b++) {
            if (!scored(b, q)) continue;
            order.add(b);
            cards.put(b, card(b, q));
        }
        order.sort((a, b) -> {
            int c = compare(cards.get(a), cards.get(b));
            return c != 0 ? c : a - b;
        });
        return i < order.size() ? order.get(i) : NONE;
    }

    // Promises 24 to 29.

    int word(int r, int b, int second, int x, int y, int size, int directions) {
        if (!isIn(r, b) || !in(second, 0, 100000) || !in(size, 0, 3) || !in(directions, 1, 255)) return NONE;
        if (x < 0 || y < 0 || (long) x + size > 99 || (long) y + size > 99 || words.size() == 200) return NONE;
        words.add(new Word(r, b, second, x, y, size, directions, now));
        return words.size() - 1;
    }

    int protest(int r, int a, int b, int second) {
        if (!isIn(r, a) || !isIn(r, b) || a == b || !in(second, 0, 100000) || protests.size() == 30) return NONE;
        protests.add(new Protest(r, a, b, second, now, new ArrayList<>()));
        return protests.size() - 1;
    }

    private static boolean within(Word w, int x, int y) {
        return in(x, w.x, w.x + w.size) && in(y, w.y, w.y + w.size);
    }

    private boolean reaches(Word w, int x, int y, long far) {
        for (int wx = w.x; wx <= w.x + w.size; wx++) {
            for (int wy = w.y; wy <= w.y + w.size; wy++) {
                if (Math.max(Math.abs(wx - x), Math.abs(wy - y)) <= far) return true;
            }
        }
        return false;
    }

    private boolean allowed(List<Word> mine, int second, int x, int y, int way, int swift) {
        boolean some = false;
        for (Word w : mine) {
            if (w.second == second) {
                if (!within(w, x, y) || (w.directions >> way & 1) == 0) return false;
                some = true;
            } else if (!reaches(w, x, y, (long) swift * Math.abs(w.second - second))) {
                return false;
            }
        }
        return some;
    }

    private List<State> all(Protest p, int who, int q) {
        List<Word> mine = new ArrayList<>();
        for (Word w : words) {
            if (w.race == p.race && w.boat == (who == 0 ? p.a : p.b) && w.told <= q) mine.add(w);
        }
        List<State> states = new ArrayList<>();
        int swift = swiftIn(p.race, q);
        for (int x = 0; x <= 99; x++) {
            for (int y = 0; y <= 99; y++) {
                for (int way = 0; way < 8; way++) {
                    if (allowed(mine, p.second, x, y, way, swift)) states.add(new State(x, y, way));
                }
            }
        }
        return states;
    }

    int states(int p, int who, int q) {
        if (!in(p, 0, protests.size() - 1) || !in(who, 0, 1) || !knows(q) || protests.get(p).told > q) return NONE;
        return all(protests.get(p), who, q).size();
    }

    private static int far(int ax, int ay, int bx, int by) {
        return Math.max(Math.abs(ax - bx), Math.abs(ay - by));
    }

    private static Map<Character, Integer> met(Race r, State a, State b) {
        int east = r.wind == 0 || r.wind == 4 ? 0 : r.wind < 4 ? 1 : -1;
        int south = r.wind == 2 || r.wind == 6 ? 0 : r.wind == 0 || r.wind == 1 || r.wind == 7 ? -1 : 1;
        Map<Character, Integer> letters = new HashMap<>();
        letters.put('d', far(a.x, a.y, b.x, b.y));
        letters.put('g', Math.floorMod(a.way - r.wind, 8) >= 5 ? 1 : 0);
        letters.put('h', Math.floorMod(b.way - r.wind, 8) >= 5 ? 1 : 0);
        letters.put('u', (a.x - b.x) * east + (a.y - b.y) * south > 0 ? 1 : 0);
        letters.put('m', far(a.x, a.y, r.x, r.y));
        letters.put('k', far(b.x, b.y, r.x, r.y));
        letters.put('o', a.way == b.way ? 1 : 0);
        return letters;
    }

    int finding(int p, int who, int q) {
        if (states(p, who, q) == NONE) return NONE;
        Protest it = protests.get(p);
        List<State> as = all(it, 0, q);
        List<State> bs = all(it, 1, q);
        if (as.isEmpty() || bs.isEmpty()) return NONE;
        Race r = races.get(it.race);
        Map<Map<Character, Integer>, Boolean> known = new HashMap<>();
        int faults = 0;
        for (State a : as) {
            for (State b : bs) {
                Map<Character, Integer> letters = met(r, a, b);
                Boolean fault = known.get(letters);
                if (fault == null) {
                    fault = worthOn(r.day, q, who == 0 ? 'a' : 'b', letters) != 0;
                    known.put(letters, fault);
                }
                if (fault) faults++;
            }
        }
        return faults == 0 ? 0 : faults == as.size() * bs.size() ? 1 : 2;
    }

    int decide(int p) {
        if (!in(p, 0, protests.size() - 1)) return NONE;
        List<int[]> events = protests.get(p).events;
        if (events.size() == 1 || events.size() == 3) return NONE;
        int who = (finding(p, 0, now) == 1 ? 1 : 0) + (finding(p, 1, now) == 1 ? 2 : 0);
        events.add(new int[] {now, who});
        return who;
    }

    boolean reopen(int p) {
        if (!in(p, 0, protests.size() - 1) || protests.get(p).events.size() != 1) return false;
        protests.get(p).events.add(new int[] {now, 0});
        return true;
    }

    // Promises 30 to 37.

    private int[] bestOf(int bits) {
        List<Integer> of = new ArrayList<>();
        if (bits < 0) return null;
        for (int b = 0; b < 31; b++) {
            if ((bits >> b & 1) == 0) continue;
            if (!hasBoat(b)) return null;
            of.add(b);
        }
        if (of.size() < 2 || of.size() > 4) return null;
        List<int[]> finishes = new ArrayList<>();
        for (int r = 0; r < races.size(); r++) {
            if (races.get(r).way == 1) continue;
            int[] row = new int[of.size() * 2];
            int some = 0;
            for (int i = 0; i < of.size(); i++) {
                if (coded(r, of.get(i), now) != 0) continue;
                some++;
                row[2 * i] = lastOf(r, of.get(i), now).seconds;
                row[2 * i + 1] = number(of.get(i), races.get(r).day, now);
            }
            if (some >= 2) finishes.add(row);
        }
        int[][] best = new int[1][];
        tryAll(finishes, new int[of.size()], 0, best);
        int[] found = new int[18];
        found[17] = best[0][of.size()];
        java.util.Arrays.fill(found, 0, 17, HIDDEN);
        for (int i = 0; i < of.size(); i++) found[of.get(i)] = best[0][i];
        return found;
    }

    private void tryAll(List<int[]> finishes, int[] changes, int at, int[][] best) {
        if (at < changes.length) {
            for (int c = -3; c <= 3; c++) {
                changes[at] = c;
                tryAll(finishes, changes, at + 1, best);
            }
            return;
        }
        int n = changes.length;
        int[] one = java.util.Arrays.copyOf(changes, n + 2);
        for (int[] row : finishes) {
            int least = Integer.MAX_VALUE;
            int most = Integer.MIN_VALUE;
            for (int i = 0; i < n; i++) {
                if (row[2 * i] == 0) continue;
                int time = (int) ((long) row[2 * i] * Math.max(1, row[2 * i + 1] + changes[i]) / 1000);
                least = Math.min(least, time);
                most = Math.max(most, time);
            }
            one[n] += most - least;
        }
        for (int c : changes) one[n + 1] += Math.abs(c);
        if (best[0] == null || isBetter(one, best[0], n)) best[0] = one;
    }

    private static boolean isBetter(int[] one, int[] best, int n) {
        if (one[n] != best[n]) return one[n] < best[n];
        if (one[n + 1] != best[n + 1]) return one[n + 1] < best[n + 1];
        for (int i = 0; i < n; i++) {
            if (one[i] != best[i]) return one[i] < best[i];
        }
        return false;
    }

    int even(int bits) {
        int[] best = bestOf(bits);
        return best == null ? NONE : best[17];
    }

    int change(int bits, int b) {
        int[] best = bestOf(bits);
        return best == null || !in(b, 0, 15) ? HIDDEN : best[b];
    }

    int middle(int r, int b) {
        if (!hasRace(r) || !hasBoat(b) || races.get(r).way == 1 || coded(r, b, now) != 0) return HIDDEN;
        List<Integer> others = new ArrayList<>();
        for (int other = 0; other < boats; other++) {
            if (other != b && coded(r, other, now) == 0) others.add(corrected(r, other, now));
        }
        others.sort(null);
        return others.isEmpty() ? HIDDEN : others.get((others.size() - 1) / 2);
    }

    int fit(int b) {
        if (!hasBoat(b)) return NONE;
        List<long[]> counted = new ArrayList<>();
        for (int r = 0; r < races.size(); r++) {
            int middle = middle(r, b);
            if (middle != HIDDEN) counted.add(new long[] {lastOf(r, b, now).seconds, middle});
        }
        if (counted.isEmpty()) return NONE;
        long least = Long.MAX_VALUE;
        int fit = NONE;
        for (int n = 500; n <= 2000; n++) {
            long sum = 0;
            for (long[] one : counted) sum += Math.abs(one[0] * n / 1000 - one[1]);
            if (sum < least) {
                least = sum;
                fit = n;
            }
        }
        return fit;
    }

    int suspect(int b, int what) {
        if (!hasBoat(b) || !in(what, 0, 1)) return HIDDEN;
        List<Integer> order = new ArrayList<>();
        for (int r = 0; r < races.size(); r++) {
            if (middle(r, b) != HIDDEN) order.add(r);
        }
        order.sort((a, c) -> races.get(a).day != races.get(c).day ? races.get(a).day - races.get(c).day : a - c);
        if (order.size() < 4) return HIDDEN;
        long[] ratios = new long[order.size()];
        for (int i = 0; i < ratios.length; i++) {
            int r = order.get(i);
            ratios[i] = 1000L * middle(r, b) / Math.max(1, corrected(r, b, now));
        }
        int best = NONE;
        long jump = 0;
        for (int split = 2; split <= ratios.length - 2; split++) {
            long ahead = 0;
            long behind = 0;
            for (int i = 0; i < ratios.length; i++) {
                if (i < split) ahead += ratios[i];
                else behind += ratios[i];
            }
            long one = behind / (ratios.length - split) - ahead / split;
            if (best == NONE || Math.abs(one) > Math.abs(jump)) {
                best = split;
                jump = one;
            }
        }
        return what == 0 ? order.get(best) : (int) jump;
    }

    boolean start(int r, int b, int end, int seconds) {
        if (!isIn(r, b) || !in(end, 0, 9) || !in(seconds, 0, 600)) return false;
        races.get(r).starts.put(b, new int[] {end, seconds});
        return true;
    }

    int lean(int r) {
        if (!hasRace(r)) return HIDDEN;
        int lean = 0;
        for (int[] low : races.get(r).starts.values()) {
            for (int[] high : races.get(r).starts.values()) {
                if (low[0] >= high[0]) continue;
                if (low[1] < high[1]) lean++;
                if (low[1] > high[1]) lean--;
            }
        }
        return lean;
    }

    int draw(int n, long seed) {
        TreeMap<Integer, Integer> left = new TreeMap<>();
        for (Certificate c : certificates) left.put(c.boat, 0);
        if (n < 1 || n > left.size()) return NONE;
        for (int b : left.keySet()) {
            int fit = fit(b);
            left.put(b, 1 + (fit == NONE ? 0 : Math.abs(fit - number(b, now, now))));
        }
        BigInteger round = BigInteger.ONE.shiftLeft(64);
        BigInteger x = BigInteger.valueOf(seed).mod(round);
        int bits = 0;
        for (int i = 0; i < n; i++) {
            x = x.multiply(new BigInteger("6364136223846793005"));
            x = x.add(new BigInteger("1442695040888963407")).mod(round);
            long sum = 0;
            for (int w : left.values()) sum += w;
            long spot = x.shiftRight(33).mod(BigInteger.valueOf(sum)).longValueExact();
            long upTo = 0;
            for (int b : left.keySet()) {
                upTo += left.get(b);
                if (spot >= upTo) continue;
                bits |= 1 << b;
                left.remove(b);
                break;
            }
        }
        return bits;
    }

    // Promises 38 and 39.

    /** NONE for what throws: nothing that is told of a RACE is below 0. */
    int told(int r, int what) {
        if (!hasRace(r) || !in(what, 0, 8)) return NONE;
        Race race = races.get(r);
        int[] all = {race.day, race.miles, race.way, race.wind, race.x, race.y, race.entered.size(), swiftIn(r, now), race.told};
        return all[what];
    }

    int count(int what) {
        if (!in(what, 0, 10)) return NONE;
        int out = 0;
        for (int r = 0; r < races.size(); r++) {
            for (int b = 0; b < boats; b++) {
                if (disqualified(r, b, now)) out++;
            }
        }
        int[] all = {now, boats, certificates.size(), laws.size(), races.size(), results.size(), words.size(),
            protests.size(), tape.length(), redresses, out};
        return all[what];
    }
}
