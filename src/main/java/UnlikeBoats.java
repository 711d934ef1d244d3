import java.util.ArrayList;
import java.util.Arrays;
import java.util.NoSuchElementException;

/** A fleet of boats no two alike: numbers, races, scores, protests and measurers, as known on any day. */
public final class UnlikeBoats {
    public static final int NONE = -1;
    public static final int HIDDEN = -1000000000;

    private static final int MOST_DAYS = 400;
    private static final int MOST_BOATS = 16;
    private static final int MOST_CERTIFICATES = 80;
    private static final int MOST_RULES = 16;
    private static final int MOST_BYTES = 200;
    private static final int MOST_RACES = 20;
    private static final int MOST_RESULTS = 300;
    private static final int MOST_REDRESSES = 20;
    private static final int MOST_WORDS = 200;
    private static final int MOST_PROTESTS = 30;
    private static final int MOST_SECONDS = 100000;
    private static final int MOST_PLACE = 99;

    private static final int FINISHED = 0;
    private static final int NOT_TOLD = 2;
    private static final int DISQUALIFIED = 5;
    private static final int BY_MINUTES = 0;
    private static final int BY_MILES = 1;
    private static final int EVEN_NUMBER = 1000;
    private static final int LEAST_NUMBER = 500;
    private static final int MOST_NUMBER = 2000;

    // Where each letter of a TEXT stands in the row of letters.
    private static final String LETTERS = "lswkrefcdghumo";
    private static final int L = 0;
    private static final int S = 1;
    private static final int W = 2;
    private static final int K = 3;
    private static final int R = 4;
    private static final int E = 5;
    private static final int F = 6;
    private static final int C = 7;
    private static final int D = 8;
    private static final int G = 9;
    private static final int H = 10;
    private static final int U = 11;
    private static final int M = 12;
    private static final int O = 13;

    // One step in each direction, from north round by east.
    private static final int[] STEP_X = {0, 1, 1, 1, 0, -1, -1, -1};
    private static final int[] STEP_Y = {-1, -1, 0, 1, 1, 1, 0, -1};

    private final Book book;
    private final Tape tape;
    private final Sheet sheet;
    private final Scores scores;
    private final Hearing hearing;
    private final Office office;

    public UnlikeBoats() {
        book = new Book();
        tape = new Tape();
        sheet = new Sheet(book);
        scores = new Scores(book, sheet);
        hearing = new Hearing(book);
        office = new Office(book, sheet);
    }

    public int days(int n) {
        if (!within(n, 0, MOST_DAYS - book.now)) return NONE;
        book.now += n;
        return book.now;
    }

    public int boat() {
        if (book.boats >= MOST_BOATS) return NONE;
        book.boats++;
        return book.boats - 1;
    }

    public int certificate(int boat, int from, int lon, int area, int weight) {
        if (!book.isBoat(boat) || !isDay(from)) return NONE;
        if (!within(lon, 10, 400) || !within(area, 1, 4000) || !within(weight, 1, 900)) return NONE;
        if (book.certificates.size() >= MOST_CERTIFICATES) return NONE;
        book.certificates.add(new Certificate(boat, from, book.now, lon, area, weight));
        return book.certificates.size() - 1;
    }

    public int measured(int boat, int day, int q) {
        if (!book.isBoat(boat) || !isDay(day) || !book.isKnown(q)) return NONE;
        return book.certificateOn(boat, day, q);
    }

    public int feed(int a, int b, int c, int d, int e) {
        int more = bytesIn(a) + bytesIn(b) + bytesIn(c) + bytesIn(d) + bytesIn(e);
        if (tape.length + more > MOST_BYTES) return NONE;
        tape.put(a);
        tape.put(b);
        tape.put(c);
        tape.put(d);
        tape.put(e);
        return tape.length;
    }

    public boolean end(int n) {
        if (!within(n, 0, tape.length)) return false;
        tape.length = n;
        return true;
    }

    public int fault() {
        return tape.read();
    }

    public int rules(int from) {
        if (!isDay(from) || book.rules.size() >= MOST_RULES) return NONE;
        if (tape.read() != NONE) return NONE;
        book.rules.add(tape.asRules(from, book.now));
        tape.length = 0;
        return book.rules.size() - 1;
    }

    public int force(int day, int q) {
        if (!isDay(day) || !book.isKnown(q)) return NONE;
        return book.rulesOn(day, q);
    }

    public int number(int boat, int day, int q) {
        if (!book.isBoat(boat) || !isDay(day) || !book.isKnown(q)) return NONE;
        return book.numberOf(boat, day, q);
    }

    public int race(int day, int miles, int way, int wind, int x, int y) {
        if (!within(day, 0, book.now) || !within(miles, 1, 1000)) return NONE;
        if (!within(way, BY_MINUTES, BY_MILES) || !within(wind, 0, 7)) return NONE;
        if (!within(x, 0, MOST_PLACE) || !within(y, 0, MOST_PLACE)) return NONE;
        if (book.races.size() >= MOST_RACES) return NONE;
        book.races.add(new Race(book.now, day, miles, way, wind, x, y));
        return book.races.size() - 1;
    }

    public boolean swift(int race, int far) {
        if (!book.isRace(race) || !within(far, 1, 9)) return false;
        book.races.get(race).swifts[book.now] = far;
        return true;
    }

    public boolean enter(int race, int boat) {
        if (!book.isRace(race) || !book.isBoat(boat) || book.isEntered(race, boat)) return false;
        book.races.get(race).entries[boat] = book.now;
        return true;
    }

    public boolean result(int race, int boat, int code, int seconds) {
        if (!book.isEntered(race, boat) || !within(code, FINISHED, 4)) return false;
        boolean meant = code == FINISHED ? within(seconds, 1, 200000) : seconds == 0;
        if (!meant || book.results.size() >= MOST_RESULTS) return false;
        book.results.add(new Result(race, boat, code, seconds, book.now));
        return true;
    }

    public int coded(int race, int boat, int q) {
        if (!book.isCounted(race, q) || !book.isBoat(boat)) return NONE;
        sheet.readCodes(race, q);
        return sheet.codes[boat];
    }

    public int corrected(int race, int boat, int q) {
        if (!book.isCounted(race, q) || !book.isBoat(boat)) return HIDDEN;
        sheet.read(race, q);
        return sheet.codes[boat] == FINISHED ? sheet.times[boat] : HIDDEN;
    }

    public int placed(int race, int boat, int q) {
        if (!book.isCounted(race, q) || !book.isBoat(boat)) return NONE;
        sheet.read(race, q);
        return sheet.codes[boat] == FINISHED ? sheet.places[boat] : NONE;
    }

    public boolean redress(int race, int boat) {
        if (!book.isEntered(race, boat) || book.redresses >= MOST_REDRESSES) return false;
        Race it = book.races.get(race);
        if (it.redresses[boat] != NONE) return false;
        it.redresses[boat] = book.now;
        book.redresses++;
        return true;
    }

    public int points(int race, int boat, int q) {
        if (!book.isCounted(race, q) || !book.isBoat(boat)) return NONE;
        return scores.pointsIn(race, boat, q);
    }

    public int thrown(int race, int boat, int q) {
        if (!book.isCounted(race, q) || !book.isBoat(boat)) return NONE;
        scores.tally(q);
        if (!scores.scored[boat]) return NONE;
        return scores.out[cell(race, boat)] ? 1 : 0;
    }

    public int total(int boat, int q) {
        if (!book.isBoat(boat) || !book.isKnown(q)) return NONE;
        scores.tally(q);
        return scores.scored[boat] ? scores.totals[boat] : NONE;
    }

    public int ranked(int i, int q) {
        if (!within(i, 0, MOST_BOATS - 1) || !book.isKnown(q)) return NONE;
        scores.tally(q);
        return scores.boatAt(i);
    }

    public int word(int race, int boat, int second, int x, int y, int size, int directions) {
        if (!book.isEntered(race, boat) || !within(second, 0, MOST_SECONDS)) return NONE;
        if (!within(size, 0, 3) || !within(directions, 1, 255)) return NONE;
        if (!within(x, 0, MOST_PLACE - size) || !within(y, 0, MOST_PLACE - size)) return NONE;
        if (book.words.size() >= MOST_WORDS) return NONE;
        Word it = new Word(race, boat, book.now);
        it.say(second, x, y, size, directions);
        book.words.add(it);
        return book.words.size() - 1;
    }

    public int protest(int race, int a, int b, int second) {
        if (!book.isEntered(race, a) || !book.isEntered(race, b) || a == b) return NONE;
        if (!within(second, 0, MOST_SECONDS) || book.protests.size() >= MOST_PROTESTS) return NONE;
        book.protests.add(new Protest(race, a, b, second, book.now));
        return book.protests.size() - 1;
    }

    public int states(int protest, int who, int q) {
        if (!book.isProtested(protest, q) || !within(who, 0, 1)) return NONE;
        return hearing.statesOf(book.protests.get(protest), who, q);
    }

    public int finding(int protest, int who, int q) {
        if (!book.isProtested(protest, q) || !within(who, 0, 1)) return NONE;
        return hearing.find(book.protests.get(protest), who, q);
    }

    public int decide(int protest) {
        if (!book.isProtested(protest, book.now)) return NONE;
        Protest it = book.protests.get(protest);
        if (it.isDecided()) return NONE;
        int guilty = hearing.find(it, 0, book.now) == 1 ? 1 : 0;
        if (hearing.find(it, 1, book.now) == 1) guilty |= 2;
        it.settle(guilty, book.now);
        return guilty;
    }

    public boolean reopen(int protest) {
        if (!book.isProtested(protest, book.now)) return false;
        Protest it = book.protests.get(protest);
        if (!it.isDecided() || it.reopened != NONE) return false;
        it.reopened = book.now;
        return true;
    }

    public int even(int boats) {
        if (!book.areSome(boats)) return NONE;
        office.loadAll();
        office.evenOut(boats);
        return office.bestSpread;
    }

    public int change(int boats, int boat) {
        if (!book.areSome(boats) || !book.isBoat(boat) || (boats >> boat & 1) == 0) return HIDDEN;
        office.loadAll();
        office.evenOut(boats);
        return office.bestChangeOf(boat);
    }

    public int middle(int race, int boat) {
        if (!book.isRace(race) || !book.isBoat(boat)) return HIDDEN;
        office.load(race);
        return office.middleOf(race, boat);
    }

    public int fit(int boat) {
        if (!book.isBoat(boat)) return NONE;
        office.loadAll();
        return office.fitOf(boat);
    }

    public int suspect(int boat, int what) {
        if (!book.isBoat(boat) || !within(what, 0, 1)) return HIDDEN;
        office.loadAll();
        return office.suspectedOf(boat, what);
    }

    public boolean start(int race, int boat, int end, int seconds) {
        if (!book.isEntered(race, boat) || !within(end, 0, 9) || !within(seconds, 0, 600)) return false;
        Race it = book.races.get(race);
        it.ends[boat] = end;
        it.behind[boat] = seconds;
        return true;
    }

    public int lean(int race) {
        if (!book.isRace(race)) return HIDDEN;
        return book.races.get(race).leaning();
    }

    public int draw(int n, long seed) {
        if (n < 1 || n > office.markCertified()) return NONE;
        office.loadAll();
        office.weigh();
        return office.drawOut(n, seed);
    }

    public int told(int race, int what) throws NoSuchElementException {
        if (!book.isRace(race)) throw new NoSuchElementException("no such race");
        Race it = book.races.get(race);
        switch (what) {
            case 0: return it.day;
            case 1: return it.miles;
            case 2: return it.way;
            case 3: return it.wind;
            case 4: return it.x;
            case 5: return it.y;
            case 6: return it.enteredIn(book.now);
            case 7: return it.swiftIn(book.now);
            case 8: return it.told;
            default: throw new NoSuchElementException("no such thing of a race");
        }
    }

    public int count(int what) {
        switch (what) {
            case 0: return book.now;
            case 1: return book.boats;
            case 2: return book.certificates.size();
            case 3: return book.rules.size();
            case 4: return book.races.size();
            case 5: return book.results.size();
            case 6: return book.words.size();
            case 7: return book.protests.size();
            case 8: return tape.length;
            case 9: return book.redresses;
            case 10: return book.disqualified();
            default: return NONE;
        }
    }

    private static boolean within(int n, int low, int high) {
        return n >= low && n <= high;
    }

    private static int held(int n, int low, int high) {
        return n < low ? low : n > high ? high : n;
    }

    private static int apart(int a, int b) {
        return a > b ? a - b : b - a;
    }

    private static boolean isDay(int day) {
        return within(day, 0, MOST_DAYS);
    }

    /** Where a BOAT in a RACE stands in a row that has all BOATS of all RACES. */
    private static int cell(int race, int boat) {
        return race * MOST_BOATS + boat;
    }

    /** How many bytes of a number are not 0. */
    private static int bytesIn(int number) {
        int bytes = 0;
        for (int shift = 24; shift >= 0; shift -= 8) {
            if ((number >>> shift & 255) != 0) bytes++;
        }
        return bytes;
    }

    private static boolean isOneOf(String signs, int sign) {
        return sign > 0 && signs.indexOf((char) sign) >= 0;
    }

    /** What was measured of a BOAT. */
    private static final class Certificate {
        final int boat;
        final int from;
        final int told;
        final int lon;
        final int area;
        final int weight;

        Certificate(int boat, int from, int told, int lon, int area, int weight) {
            this.boat = boat;
            this.from = from;
            this.told = told;
            this.lon = lon;
            this.area = area;
            this.weight = weight;
        }
    }

    /** What was told of a BOAT at the end of a RACE. */
    private static final class Result {
        final int race;
        final int boat;
        final int code;
        final int seconds;
        final int told;

        Result(int race, int boat, int code, int seconds, int told) {
            this.race = race;
            this.boat = boat;
            this.code = code;
            this.seconds = seconds;
            this.told = told;
        }
    }

    /** Where a BOAT was within at a second, and which ways it may have gone. */
    private static final class Word {
        final int race;
        final int boat;
        final int told;
        int second;
        int x;
        int y;
        int size;
        int directions;

        Word(int race, int boat, int told) {
            this.race = race;
            this.boat = boat;
            this.told = told;
        }

        void say(int second, int x, int y, int size, int directions) {
            this.second = second;
            this.x = x;
            this.y = y;
            this.size = size;
            this.directions = directions;
        }
    }

    /** A RACE with what was told of each BOAT in it; a DAY of NONE says that it was not told. */
    private static final class Race {
        final int told;
        final int day;
        final int miles;
        final int way;
        final int wind;
        final int x;
        final int y;
        final int[] entries = new int[MOST_BOATS];
        final int[] redresses = new int[MOST_BOATS];
        final int[] ends = new int[MOST_BOATS];
        final int[] behind = new int[MOST_BOATS];
        final int[] swifts = new int[MOST_DAYS + 1];

        Race(int told, int day, int miles, int way, int wind, int x, int y) {
            this.told = told;
            this.day = day;
            this.miles = miles;
            this.way = way;
            this.wind = wind;
            this.x = x;
            this.y = y;
            Arrays.fill(entries, NONE);
            Arrays.fill(redresses, NONE);
            Arrays.fill(ends, NONE);
        }

        boolean isEnteredIn(int boat, int q) {
            return entries[boat] != NONE && entries[boat] <= q;
        }

        boolean isRedressedIn(int boat, int q) {
            return redresses[boat] != NONE && redresses[boat] <= q;
        }

        int enteredIn(int q) {
            int entered = 0;
            for (int boat = 0; boat < MOST_BOATS; boat++) {
                if (isEnteredIn(boat, q)) entered++;
            }
            return entered;
        }

        /** SWIFT is told on a DAY like all else, so what was told behind q is not known in q. */
        int swiftIn(int q) {
            for (int day = q; day >= told; day--) {
                if (swifts[day] != 0) return swifts[day];
            }
            return 2;
        }

        int leaning() {
            int lean = 0;
            for (int a = 0; a < MOST_BOATS; a++) {
                for (int b = a + 1; b < MOST_BOATS; b++) {
                    if (ends[a] == NONE || ends[b] == NONE) continue;
                    lean += Integer.signum(ends[b] - ends[a]) * Integer.signum(behind[b] - behind[a]);
                }
            }
            return lean;
        }
    }

    /** A PROTEST with what was decided on it, and decided anew. */
    private static final class Protest {
        final int race;
        final int a;
        final int b;
        final int second;
        final int told;
        int decided = NONE;
        int guilty;
        int reopened = NONE;
        int decidedAnew = NONE;
        int guiltyAnew;

        Protest(int race, int a, int b, int second, int told) {
            this.race = race;
            this.a = a;
            this.b = b;
            this.second = second;
            this.told = told;
        }

        boolean isDecided() {
            return reopened == NONE ? decided != NONE : decidedAnew != NONE;
        }

        void settle(int who, int day) {
            if (reopened == NONE) {
                decided = day;
                guilty = who;
            } else {
                decidedAnew = day;
                guiltyAnew = who;
            }
        }

        /** Who is DISQUALIFIED by it as known in q: 1 A, 2 B, 3 both. */
        int guiltyIn(int q) {
            if (decidedAnew != NONE && decidedAnew <= q) return guiltyAnew;
            if (reopened != NONE && reopened <= q) return 0;
            return decided != NONE && decided <= q ? guilty : 0;
        }
    }

    /** A TEXT as its CLAUSES, each turned into steps for a stack: what is joined comes ahead of its sign. */
    private static final class Rules {
        private static final int LIMIT = 10000000;

        final int from;
        final int told;
        // A number is itself, a letter is below 0 by its place, a sign is below all letters.
        private final int[] steps;
        private final int[] labels;
        // CLAUSE i has its CONDITION in begins[i] .. sums[i] and its SUM in sums[i] .. begins[i + 1].
        private final int[] begins;
        private final int[] sums;

        Rules(int from, int told, int[] steps, int[] labels, int[] begins, int[] sums) {
            this.from = from;
            this.told = told;
            this.steps = steps;
            this.labels = labels;
            this.begins = begins;
            this.sums = sums;
        }

        static int asLetter(int place) {
            return -1 - place;
        }

        static int asSign(int sign) {
            return -100 - sign;
        }

        int worthOf(char label, int[] letters, int[] stack) {
            for (int i = 0; i < labels.length; i++) {
                if (labels[i] != label) continue;
                boolean holds = sums[i] == begins[i] || run(begins[i], sums[i], letters, stack) != 0;
                if (holds) return run(sums[i], begins[i + 1], letters, stack);
            }
            return label == 'n' ? EVEN_NUMBER : 0;
        }

        private int run(int first, int behind, int[] letters, int[] stack) {
            int high = 0;
            for (int i = first; i < behind; i++) {
                int step = steps[i];
                if (step <= asSign(0)) {
                    int sign = -100 - step;
                    if (sign == '!') {
                        if (high > 0) stack[high - 1] = stack[high - 1] == 0 ? 1 : 0;
                    } else if (high > 1) {
                        high--;
                        stack[high - 1] = join(sign, stack[high - 1], stack[high]);
                    }
                } else if (high < stack.length) {
                    stack[high] = step >= 0 ? step : letterAt(-1 - step, letters);
                    high++;
                }
            }
            return high > 0 ? stack[high - 1] : 0;
        }

        private static int letterAt(int place, int[] letters) {
            return place < letters.length ? letters[place] : 0;
        }

        private static int join(int sign, int a, int b) {
            long n;
            switch (sign) {
                case '+': n = (long) a + b; break;
                case '-': n = (long) a - b; break;
                case '*': n = (long) a * b; break;
                case '/': n = b == 0 ? 0 : a / b; break;
                case '=': return a == b ? 1 : 0;
                case '<': return a < b ? 1 : 0;
                case '>': return a > b ? 1 : 0;
                case '&': return a & b;
                default: return a | b;
            }
            return n > LIMIT ? LIMIT : n < -LIMIT ? -LIMIT : (int) n;
        }
    }

    /** The TAPE, read as a TEXT: up to its FAULT, and into steps. */
    private static final class Tape {
        private static final int NOTHING = -1;
        private static final int AMISS = -2;
        private static final int MOST_DIGITS = 5;
        private static final int DEEPEST = 8;
        // The shortest CLAUSE takes four bytes with its ; so no TAPE has more.
        private static final int MOST_CLAUSES = MOST_BYTES / 4 + 1;

        final int[] bytes = new int[MOST_BYTES];
        int length;
        private int at;
        private int fault;
        private final int[] steps = new int[MOST_BYTES];
        private int size;
        private final int[] labels = new int[MOST_CLAUSES];
        private final int[] begins = new int[MOST_CLAUSES + 1];
        private final int[] sums = new int[MOST_CLAUSES];
        private int clauses;

        void put(int number) {
            for (int shift = 24; shift >= 0; shift -= 8) {
                int one = number >>> shift & 255;
                if (one != 0 && length < bytes.length) {
                    bytes[length] = one;
                    length++;
                }
            }
        }

        /** Reads the TEXT anew: its FAULT, or NONE. */
        int read() {
            at = 0;
            fault = NONE;
            size = 0;
            clauses = 0;
            readClause();
            for (int i = 0; i < MOST_BYTES && next() == ';'; i++) {
                at++;
                readClause();
            }
            if (next() != NOTHING) fail();
            begins[clauses] = size;
            return fault;
        }

        /** What read() has found in a TEXT without FAULT. */
        Rules asRules(int from, int told) {
            return new Rules(from, told, Arrays.copyOf(steps, size), Arrays.copyOf(labels, clauses),
                Arrays.copyOf(begins, clauses + 1), Arrays.copyOf(sums, clauses));
        }

        /** The next byte that is no blank; behind a FAULT nothing goes on, so that all readers come to their end. */
        private int next() {
            if (fault != NONE) return AMISS;
            while (at < length && bytes[at] == ' ') at++;
            return at < length ? bytes[at] : NOTHING;
        }

        private void fail() {
            if (fault == NONE) fault = at;
        }

        private void take(int sign) {
            if (next() == sign) at++;
            else fail();
        }

        private void add(int step) {
            if (size < steps.length) {
                steps[size] = step;
                size++;
            }
        }

        private void readClause() {
            int label = next();
            if (!isOneOf("nptab", label) || clauses >= MOST_CLAUSES) {
                fail();
                return;
            }
            at++;
            take(':');
            labels[clauses] = label;
            begins[clauses] = size;
            sums[clauses] = size;
            boolean condition = isOneOf("!(", next());
            if (!condition) readSum(0);
            if (condition || isOneOf("=<>", next())) {
                readCondition(0, !condition);
                take('?');
                sums[clauses] = size;
                readSum(0);
            }
            clauses++;
        }

        /** Begun: the first SUM of it was read already, as only its sign tells a CONDITION from a SUM. */
        private void readCondition(int depth, boolean begun) {
            readPart(depth, begun);
            for (int i = 0; i < MOST_BYTES && next() == '|'; i++) {
                at++;
                readPart(depth, false);
                add(Rules.asSign('|'));
            }
        }

        private void readPart(int depth, boolean begun) {
            readUnit(depth, begun);
            for (int i = 0; i < MOST_BYTES && next() == '&'; i++) {
                at++;
                readUnit(depth, false);
                add(Rules.asSign('&'));
            }
        }

        private void readUnit(int depth, boolean begun) {
            int first = begun ? NOTHING : next();
            if (first == '!') {
                if (!goDeeper(depth)) return;
                readUnit(depth + 1, false);
                add(Rules.asSign('!'));
            } else if (first == '(') {
                if (!goDeeper(depth)) return;
                readCondition(depth + 1, false);
                take(')');
            } else {
                if (!begun) readSum(depth);
                readComparison(depth);
            }
        }

        private void readComparison(int depth) {
            int sign = next();
            if (!isOneOf("=<>", sign)) {
                fail();
                return;
            }
            at++;
            readSum(depth);
            add(Rules.asSign(sign));
        }

        private void readSum(int depth) {
            readTerm(depth);
            for (int i = 0; i < MOST_BYTES && isOneOf("+-", next()); i++) {
                int sign = bytes[at];
                at++;
                readTerm(depth);
                add(Rules.asSign(sign));
            }
        }

        private void readTerm(int depth) {
            readAtom(depth);
            for (int i = 0; i < MOST_BYTES && isOneOf("*/", next()); i++) {
                int sign = bytes[at];
                at++;
                readAtom(depth);
                add(Rules.asSign(sign));
            }
        }

        private void readAtom(int depth) {
            int first = next();
            if (isDigit(first)) {
                readNumber();
            } else if (isOneOf(LETTERS, first)) {
                at++;
                add(Rules.asLetter(LETTERS.indexOf((char) first)));
            } else if (first == '[') {
                if (!goDeeper(depth)) return;
                readSum(depth + 1);
                take(']');
            } else {
                fail();
            }
        }

        private void readNumber() {
            int number = 0;
            int digits = 0;
            // A sixth digit stays behind, and nothing that may follow a number takes it.
            while (digits < MOST_DIGITS && at < length && isDigit(bytes[at])) {
                number = number * 10 + bytes[at] - '0';
                digits++;
                at++;
            }
            add(number);
        }

        private static boolean isDigit(int one) {
            return one >= '0' && one <= '9';
        }

        /** Takes a ( [ or ! unless it would be the ninth within one another. */
        private boolean goDeeper(int depth) {
            if (depth >= DEEPEST) {
                fail();
                return false;
            }
            at++;
            return true;
        }
    }

    /** All that was told, and what is in force of it. */
    private static final class Book {
        int now;
        int boats;
        int redresses;
        final ArrayList<Certificate> certificates = new ArrayList<>();
        final ArrayList<Rules> rules = new ArrayList<>();
        final ArrayList<Race> races = new ArrayList<>();
        final ArrayList<Result> results = new ArrayList<>();
        final ArrayList<Word> words = new ArrayList<>();
        final ArrayList<Protest> protests = new ArrayList<>();
        // What the letters of a TEXT are, for whoever asks next.
        final int[] letters = new int[LETTERS.length()];
        private final int[] stack = new int[MOST_BYTES];

        boolean isBoat(int boat) {
            return within(boat, 0, boats - 1);
        }

        boolean isRace(int race) {
            return within(race, 0, races.size() - 1);
        }

        boolean isKnown(int q) {
            return within(q, 0, now);
        }

        boolean isCounted(int race, int q) {
            return isKnown(q) && isRace(race) && races.get(race).told <= q;
        }

        boolean isEntered(int race, int boat) {
            return isRace(race) && isBoat(boat) && races.get(race).isEnteredIn(boat, now);
        }

        boolean isProtested(int protest, int q) {
            return isKnown(q) && within(protest, 0, protests.size() - 1) && protests.get(protest).told <= q;
        }

        /** Whether bits are two to four BOATS and nothing else. */
        boolean areSome(int bits) {
            return within(bits, 0, (1 << boats) - 1) && within(Integer.bitCount(bits), 2, 4);
        }

        int certificateOn(int boat, int day, int q) {
            int inForce = NONE;
            int from = 0;
            for (int i = 0; i < certificates.size(); i++) {
                Certificate it = certificates.get(i);
                if (it.boat == boat && it.told <= q && it.from <= day && it.from >= from) {
                    inForce = i;
                    from = it.from;
                }
            }
            return inForce;
        }

        int rulesOn(int day, int q) {
            int inForce = NONE;
            int from = 0;
            for (int i = 0; i < rules.size(); i++) {
                Rules it = rules.get(i);
                if (it.told <= q && it.from <= day && it.from >= from) {
                    inForce = i;
                    from = it.from;
                }
            }
            return inForce;
        }

        int numberOf(int boat, int day, int q) {
            int law = rulesOn(day, q);
            int paper = certificateOn(boat, day, q);
            if (law == NONE || paper == NONE) return EVEN_NUMBER;
            Certificate it = certificates.get(paper);
            forgetLetters();
            letters[L] = it.lon;
            letters[S] = it.area;
            letters[W] = it.weight;
            return held(rules.get(law).worthOf('n', letters, stack), LEAST_NUMBER, MOST_NUMBER);
        }

        void forgetLetters() {
            Arrays.fill(letters, 0);
        }

        /** WORTH of a LABEL other than n, with the letters as they stand. */
        int worthIn(int law, char label) {
            return law == NONE ? 0 : rules.get(law).worthOf(label, letters, stack);
        }

        int racesIn(int q) {
            int counted = 0;
            for (int race = 0; race < races.size(); race++) {
                if (races.get(race).told <= q) counted++;
            }
            return counted;
        }

        /** The BOATS DISQUALIFIED in a RACE as known in q, as bits. */
        int disqualifiedIn(int race, int q) {
            int bits = 0;
            for (int i = 0; i < protests.size(); i++) {
                Protest it = protests.get(i);
                if (it.race != race) continue;
                int guilty = it.guiltyIn(q);
                if ((guilty & 1) != 0) bits |= 1 << it.a;
                if ((guilty & 2) != 0) bits |= 1 << it.b;
            }
            return bits;
        }

        int disqualified() {
            int all = 0;
            for (int race = 0; race < races.size(); race++) {
                all += Integer.bitCount(disqualifiedIn(race, now));
            }
            return all;
        }
    }

    /** One RACE as known in q. */
    private static final class Sheet {
        private final Book book;
        // NONE: not entered.
        final int[] codes = new int[MOST_BOATS];
        // Those behind stand for those with CODE 0 alone.
        final int[] seconds = new int[MOST_BOATS];
        final int[] numbers = new int[MOST_BOATS];
        final int[] times = new int[MOST_BOATS];
        final int[] places = new int[MOST_BOATS];
        private int law;
        private int entered;
        private int finished;

        Sheet(Book book) {
            this.book = book;
        }

        void readCodes(int race, int q) {
            Race it = book.races.get(race);
            for (int boat = 0; boat < MOST_BOATS; boat++) {
                codes[boat] = it.isEnteredIn(boat, q) ? NOT_TOLD : NONE;
            }
            for (int i = 0; i < book.results.size(); i++) {
                Result one = book.results.get(i);
                if (one.race != race || one.told > q) continue;
                codes[one.boat] = one.code;
                seconds[one.boat] = one.seconds;
            }
            int bits = book.disqualifiedIn(race, q);
            for (int boat = 0; boat < MOST_BOATS; boat++) {
                if ((bits >> boat & 1) != 0) codes[boat] = DISQUALIFIED;
            }
        }

        void read(int race, int q) {
            readCodes(race, q);
            Race it = book.races.get(race);
            law = book.rulesOn(it.day, q);
            entered = it.enteredIn(q);
            finished = 0;
            for (int boat = 0; boat < MOST_BOATS; boat++) {
                if (codes[boat] != FINISHED) continue;
                finished++;
                numbers[boat] = book.numberOf(boat, it.day, q);
                times[boat] = it.way == BY_MINUTES ? seconds[boat] * numbers[boat] / 1000
                    : seconds[boat] + (numbers[boat] - EVEN_NUMBER) * it.miles / 10;
            }
            for (int boat = 0; boat < MOST_BOATS; boat++) {
                places[boat] = codes[boat] == FINISHED ? placeOf(boat) : 0;
            }
        }

        /** Ten times the middle of the first and the last place that those with its CORRECTED take. */
        private int placeOf(int boat) {
            int ahead = 0;
            int alike = 0;
            for (int other = 0; other < MOST_BOATS; other++) {
                if (codes[other] != FINISHED) continue;
                if (times[other] < times[boat]) ahead++;
                if (times[other] == times[boat]) alike++;
            }
            return 5 * (ahead + 1 + ahead + alike);
        }

        /** POINTS without REDRESS in the RACE that was read. */
        int plainPointsOf(int boat) {
            book.forgetLetters();
            book.letters[K] = codes[boat] == NONE ? NOT_TOLD : codes[boat];
            book.letters[R] = places[boat];
            book.letters[E] = entered;
            book.letters[F] = finished;
            return held(book.worthIn(law, 'p'), 0, 10000);
        }
    }

    /** POINTS, THROW OUTS and TOTALS as known in q. */
    private static final class Scores {
        private final Book book;
        private final Sheet sheet;
        private int races;
        private final int[] plain = new int[MOST_RACES * MOST_BOATS];
        private final int[] points = new int[MOST_RACES * MOST_BOATS];
        final boolean[] out = new boolean[MOST_RACES * MOST_BOATS];
        final boolean[] scored = new boolean[MOST_BOATS];
        final int[] totals = new int[MOST_BOATS];
        private final int[] mine = new int[MOST_RACES];
        private final int[] theirs = new int[MOST_RACES];

        Scores(Book book, Sheet sheet) {
            this.book = book;
            this.sheet = sheet;
        }

        /** POINTS of one BOAT, without a tally of the others. */
        int pointsIn(int race, int boat, int q) {
            if (!book.races.get(race).isRedressedIn(boat, q)) {
                sheet.read(race, q);
                return sheet.plainPointsOf(boat);
            }
            races = book.racesIn(q);
            for (int other = 0; other < races; other++) {
                sheet.read(other, q);
                plain[cell(other, boat)] = sheet.plainPointsOf(boat);
            }
            return meanBeside(race, boat, q);
        }

        void tally(int q) {
            races = book.racesIn(q);
            for (int boat = 0; boat < MOST_BOATS; boat++) scored[boat] = false;
            for (int race = 0; race < races; race++) {
                sheet.read(race, q);
                for (int boat = 0; boat < book.boats; boat++) {
                    if (sheet.codes[boat] != NONE) scored[boat] = true;
                    plain[cell(race, boat)] = sheet.plainPointsOf(boat);
                }
            }
            int outs = throwOutsIn(q);
            for (int boat = 0; boat < book.boats; boat++) {
                for (int race = 0; race < races; race++) {
                    boolean redressed = book.races.get(race).isRedressedIn(boat, q);
                    points[cell(race, boat)] = redressed ? meanBeside(race, boat, q) : plain[cell(race, boat)];
                }
                throwOut(boat, outs);
            }
        }

        /** What REDRESS gives: the mean of the RACES in which the BOAT has none. */
        private int meanBeside(int race, int boat, int q) {
            int sum = 0;
            int others = 0;
            for (int other = 0; other < races; other++) {
                if (other == race || book.races.get(other).isRedressedIn(boat, q)) continue;
                sum += plain[cell(other, boat)];
                others++;
            }
            return others == 0 ? 0 : sum / others;
        }

        private int throwOutsIn(int q) {
            book.forgetLetters();
            book.letters[C] = races;
            int worth = book.worthIn(book.rulesOn(q, q), 't');
            return held(worth, 0, Math.max(0, races - 1));
        }

        private void throwOut(int boat, int outs) {
            int total = 0;
            for (int race = 0; race < races; race++) {
                out[cell(race, boat)] = false;
                total += points[cell(race, boat)];
            }
            for (int i = 0; i < outs; i++) {
                int worst = worstOf(boat);
                if (worst == NONE) break;
                out[cell(worst, boat)] = true;
                total -= points[cell(worst, boat)];
            }
            totals[boat] = total;
        }

        /** The RACE with the most POINTS that is not thrown out yet, of alike ones the latest. */
        private int worstOf(int boat) {
            int worst = NONE;
            int most = 0;
            for (int race = 0; race < races; race++) {
                int one = points[cell(race, boat)];
                if (out[cell(race, boat)] || one < most) continue;
                worst = race;
                most = one;
            }
            return worst;
        }

        /** The BOAT of the SCORES than which i others are BETTER. */
        int boatAt(int i) {
            for (int boat = 0; boat < book.boats; boat++) {
                if (!scored[boat]) continue;
                int better = 0;
                for (int other = 0; other < book.boats; other++) {
                    if (other != boat && scored[other] && isBetter(other, boat)) better++;
                }
                if (better == i) return boat;
            }
            return NONE;
        }

        private boolean isBetter(int boat, int other) {
            if (totals[boat] != totals[other]) return totals[boat] < totals[other];
            int kept = sortKept(boat, mine);
            sortKept(other, theirs);
            for (int i = 0; i < kept; i++) {
                if (mine[i] != theirs[i]) return mine[i] < theirs[i];
            }
            for (int race = races - 1; race >= 0; race--) {
                int one = points[cell(race, boat)];
                int two = points[cell(race, other)];
                if (one != two) return one < two;
            }
            return boat < other;
        }

        /** Puts the POINTS that are not thrown out, rising, into a row: how many. */
        private int sortKept(int boat, int[] row) {
            int kept = 0;
            for (int race = 0; race < races; race++) {
                if (out[cell(race, boat)]) continue;
                kept = sortIn(points[cell(race, boat)], row, kept);
            }
            return kept;
        }
    }

    /** Puts a number where it belongs among the first ones of a rising row: how many they are then. */
    private static int sortIn(int number, int[] row, int size) {
        if (size >= row.length) return size;
        int at = size;
        while (at > 0 && row[at - 1] > number) {
            row[at] = row[at - 1];
            at--;
        }
        row[at] = number;
        return size + 1;
    }

    /** STATES and FINDINGS of a PROTEST as known in q. */
    private static final class Hearing {
        private final Book book;
        // Of A and of B: all that WORDS allow is one span of places, in each of the same ways.
        private final int[] lowX = new int[2];
        private final int[] highX = new int[2];
        private final int[] lowY = new int[2];
        private final int[] highY = new int[2];
        private final int[] ways = new int[2];
        private Race race;
        private int law;
        private char label;
        // Each triple of the letters g, h and o that some pair of ways gives, as the bit 4 g + 2 h + o.
        private int tacks;

        Hearing(Book book) {
            this.book = book;
        }

        /** Each WORD narrows the span: one of another second does so by how far the BOAT comes till then. */
        int statesOf(Protest protest, int who, int q) {
            int boat = who == 0 ? protest.a : protest.b;
            int swift = book.races.get(protest.race).swiftIn(q);
            boolean heard = false;
            lowX[who] = 0;
            lowY[who] = 0;
            highX[who] = MOST_PLACE;
            highY[who] = MOST_PLACE;
            ways[who] = 255;
            for (int i = 0; i < book.words.size(); i++) {
                Word word = book.words.get(i);
                if (word.race != protest.race || word.boat != boat || word.told > q) continue;
                narrow(who, word, swift * apart(word.second, protest.second));
                if (word.second == protest.second) {
                    heard = true;
                    ways[who] &= word.directions;
                }
            }
            if (!heard || lowX[who] > highX[who] || lowY[who] > highY[who]) return 0;
            int places = (highX[who] - lowX[who] + 1) * (highY[who] - lowY[who] + 1);
            return places * Integer.bitCount(ways[who]);
        }

        private void narrow(int who, Word word, int far) {
            lowX[who] = Math.max(lowX[who], word.x - far);
            lowY[who] = Math.max(lowY[who], word.y - far);
            highX[who] = Math.min(highX[who], word.x + word.size + far);
            highY[who] = Math.min(highY[who], word.y + word.size + far);
        }

        int find(Protest protest, int who, int q) {
            if (statesOf(protest, 0, q) == 0 || statesOf(protest, 1, q) == 0) return NONE;
            race = book.races.get(protest.race);
            law = book.rulesOn(race.day, q);
            label = who == 0 ? 'a' : 'b';
            gatherTacks();
            int seen = 0;
            for (int x = lowX[0]; x <= highX[0] && seen != 3; x++) {
                for (int y = lowY[0]; y <= highY[0] && seen != 3; y++) seen |= faultsFrom(x, y);
            }
            return seen == 3 ? 2 : seen == 2 ? 1 : 0;
        }

        private void gatherTacks() {
            tacks = 0;
            for (int a = 0; a < 8; a++) {
                for (int b = 0; b < 8; b++) {
                    if ((ways[0] >> a & 1) == 0 || (ways[1] >> b & 1) == 0) continue;
                    tacks |= 1 << 4 * starboard(a) + 2 * starboard(b) + (a == b ? 1 : 0);
                }
            }
        }

        private int starboard(int way) {
            return (way - race.wind + 8) % 8 >= 5 ? 1 : 0;
        }

        /** With A at a place: 1 if there is no FAULT at some pair, 2 if there is at some, 3 if both. */
        private int faultsFrom(int ax, int ay) {
            int seen = 0;
            for (int bx = lowX[1]; bx <= highX[1] && seen != 3; bx++) {
                for (int by = lowY[1]; by <= highY[1] && seen != 3; by++) {
                    book.forgetLetters();
                    int upwind = (ax - bx) * STEP_X[race.wind] + (ay - by) * STEP_Y[race.wind];
                    book.letters[D] = far(ax, ay, bx, by);
                    book.letters[U] = upwind > 0 ? 1 : 0;
                    book.letters[M] = far(ax, ay, race.x, race.y);
                    book.letters[K] = far(bx, by, race.x, race.y);
                    seen |= faultsOnTacks();
                }
            }
            return seen;
        }

        private int faultsOnTacks() {
            int seen = 0;
            for (int i = 0; i < 8 && seen != 3; i++) {
                if ((tacks >> i & 1) == 0) continue;
                book.letters[G] = i >> 2;
                book.letters[H] = i >> 1 & 1;
                book.letters[O] = i & 1;
                seen |= book.worthIn(law, label) == 0 ? 1 : 2;
            }
            return seen;
        }

        private static int far(int ax, int ay, int bx, int by) {
            return Math.max(apart(ax, bx), apart(ay, by));
        }
    }

    /** The measurers' office: what evens BOATS, fits them, is suspected of them and draws them, all as known NOW. */
    private static final class Office {
        private static final int FURTHEST = 3;
        private static final int CHANGES = 2 * FURTHEST + 1;
        private static final int MOST_EVENED = 4;

        private final Book book;
        private final Sheet sheet;
        private final boolean[] finished = new boolean[MOST_RACES * MOST_BOATS];
        private final int[] seconds = new int[MOST_RACES * MOST_BOATS];
        private final int[] numbers = new int[MOST_RACES * MOST_BOATS];
        private final int[] times = new int[MOST_RACES * MOST_BOATS];
        // The RACES that count for the BOAT asked of, MIDDLE of each, its own seconds and its RATIO.
        private final int[] counted = new int[MOST_RACES];
        private final int[] middles = new int[MOST_RACES];
        private final int[] own = new int[MOST_RACES];
        private final int[] ratios = new int[MOST_RACES];
        private final int[] row = new int[MOST_BOATS];
        // CORRECTED with each change of each BOAT to be evened in each RACE; NONE without CODE 0.
        private final int[] changed = new int[MOST_RACES * MOST_EVENED * CHANGES];
        private final int[] evened = new int[MOST_EVENED];
        private final int[] tried = new int[MOST_EVENED];
        private final int[] best = new int[MOST_EVENED];
        private int spreading;
        int bestSpread;
        private final int[] weights = new int[MOST_BOATS];

        Office(Book book, Sheet sheet) {
            this.book = book;
            this.sheet = sheet;
        }

        void loadAll() {
            for (int race = 0; race < book.races.size(); race++) load(race);
        }

        void load(int race) {
            sheet.read(race, book.now);
            for (int boat = 0; boat < MOST_BOATS; boat++) {
                int cell = cell(race, boat);
                finished[cell] = sheet.codes[boat] == FINISHED;
                seconds[cell] = sheet.seconds[boat];
                numbers[cell] = sheet.numbers[boat];
                times[cell] = sheet.times[boat];
            }
        }

        /** MIDDLE, or HIDDEN if the RACE does not count for the BOAT. */
        int middleOf(int race, int boat) {
            if (book.races.get(race).way != BY_MINUTES || !finished[cell(race, boat)]) return HIDDEN;
            int others = 0;
            for (int other = 0; other < MOST_BOATS; other++) {
                if (other != boat && finished[cell(race, other)]) others = sortIn(times[cell(race, other)], row, others);
            }
            return others == 0 ? HIDDEN : row[(others - 1) / 2];
        }

        /** Gathers the RACES that count for a BOAT, by DAYS, of one DAY by numbers: how many. */
        private int gather(int boat) {
            int size = 0;
            for (int race = 0; race < book.races.size(); race++) {
                int middle = middleOf(race, boat);
                if (middle == HIDDEN) continue;
                int at = size;
                while (at > 0 && book.races.get(counted[at - 1]).day > book.races.get(race).day) {
                    counted[at] = counted[at - 1];
                    middles[at] = middles[at - 1];
                    at--;
                }
                counted[at] = race;
                middles[at] = middle;
                size++;
            }
            return size;
        }

        int fitOf(int boat) {
            int size = gather(boat);
            if (size == 0) return NONE;
            for (int i = 0; i < size; i++) own[i] = seconds[cell(counted[i], boat)];
            int fit = NONE;
            int least = Integer.MAX_VALUE;
            for (int number = LEAST_NUMBER; number <= MOST_NUMBER; number++) {
                int sum = 0;
                for (int i = 0; i < size && sum < least; i++) {
                    sum += apart(own[i] * number / 1000, middles[i]);
                }
                if (sum < least) {
                    least = sum;
                    fit = number;
                }
            }
            return fit;
        }

        /** SUSPECTED: 0 the RACE, 1 JUMP. */
        int suspectedOf(int boat, int what) {
            int size = gather(boat);
            if (size < 4) return HIDDEN;
            for (int i = 0; i < size; i++) {
                ratios[i] = 1000 * middles[i] / Math.max(1, times[cell(counted[i], boat)]);
            }
            int first = 2;
            int jump = jumpAt(2, size);
            for (int split = 3; split <= size - 2; split++) {
                int one = jumpAt(split, size);
                if (Math.abs(one) <= Math.abs(jump)) continue;
                first = split;
                jump = one;
            }
            return what == 0 ? counted[first] : jump;
        }

        private int jumpAt(int split, int size) {
            return meanOf(split, size) - meanOf(0, split);
        }

        private int meanOf(int first, int behind) {
            long sum = 0;
            for (int i = first; i < behind; i++) sum += ratios[i];
            return behind > first ? (int) (sum / (behind - first)) : 0;
        }

        /** Finds BEST: rising changes, the lowest BOAT's first, so that of several the first one stays. */
        void evenOut(int boats) {
            int size = 0;
            for (int boat = 0; boat < MOST_BOATS; boat++) {
                if ((boats >> boat & 1) == 0 || size >= MOST_EVENED) continue;
                evened[size] = boat;
                size++;
            }
            gatherChanged(size);
            int all = 1;
            for (int i = 0; i < size; i++) all *= CHANGES;
            bestSpread = Integer.MAX_VALUE;
            int least = 0;
            for (int i = 0; i < all; i++) {
                int left = i;
                int sum = 0;
                for (int slot = size - 1; slot >= 0; slot--) {
                    tried[slot] = left % CHANGES;
                    left /= CHANGES;
                    sum += apart(tried[slot], FURTHEST);
                }
                int spread = spreadTried(size);
                if (spread > bestSpread || spread == bestSpread && sum >= least) continue;
                bestSpread = spread;
                least = sum;
                System.arraycopy(tried, 0, best, 0, MOST_EVENED);
            }
        }

        private static int rowOf(int race, int slot) {
            return (race * MOST_EVENED + slot) * CHANGES;
        }

        private void gatherChanged(int size) {
            spreading = 0;
            for (int race = 0; race < book.races.size(); race++) {
                if (book.races.get(race).way != BY_MINUTES) continue;
                int some = 0;
                for (int slot = 0; slot < size; slot++) {
                    int cell = cell(race, evened[slot]);
                    if (finished[cell]) some++;
                    for (int i = 0; i < CHANGES; i++) {
                        int number = Math.max(1, numbers[cell] + i - FURTHEST);
                        changed[rowOf(spreading, slot) + i] = finished[cell] ? seconds[cell] * number / 1000 : NONE;
                    }
                }
                if (some >= 2) spreading++;
            }
        }

        /** SPREAD with the changes that are tried, or some number above bestSpread. */
        private int spreadTried(int size) {
            int spread = 0;
            for (int race = 0; race < spreading && spread <= bestSpread; race++) {
                int least = Integer.MAX_VALUE;
                int most = 0;
                for (int slot = 0; slot < size; slot++) {
                    int time = changed[rowOf(race, slot) + tried[slot]];
                    if (time == NONE) continue;
                    if (time < least) least = time;
                    if (time > most) most = time;
                }
                spread += most - least;
            }
            return spread;
        }

        int bestChangeOf(int boat) {
            for (int slot = 0; slot < MOST_EVENED; slot++) {
                if (evened[slot] == boat) return best[slot] - FURTHEST;
            }
            return HIDDEN;
        }

        /** Gives each BOAT with a CERTIFICATE a weight, 0 to the others: how many have one. */
        int markCertified() {
            Arrays.fill(weights, 0);
            for (int i = 0; i < book.certificates.size(); i++) weights[book.certificates.get(i).boat] = 1;
            int all = 0;
            for (int boat = 0; boat < MOST_BOATS; boat++) all += weights[boat];
            return all;
        }

        void weigh() {
            for (int boat = 0; boat < MOST_BOATS; boat++) {
                if (weights[boat] == 0) continue;
                int fit = fitOf(boat);
                if (fit != NONE) weights[boat] = 1 + apart(fit, book.numberOf(boat, book.now, book.now));
            }
        }

        /** Draws n of those that have a weight; who is drawn has none any more. */
        int drawOut(int n, long seed) {
            int sum = 0;
            for (int boat = 0; boat < MOST_BOATS; boat++) sum += weights[boat];
            long x = seed;
            int drawn = 0;
            for (int i = 0; i < n && sum > 0; i++) {
                x = x * 6364136223846793005L + 1442695040888963407L;
                int boat = boatWithin((int) ((x >>> 33) % sum));
                if (boat == NONE) break;
                drawn |= 1 << boat;
                sum -= weights[boat];
                weights[boat] = 0;
            }
            return drawn;
        }

        private int boatWithin(int spot) {
            int left = spot;
            for (int boat = 0; boat < MOST_BOATS; boat++) {
                if (left < weights[boat]) return boat;
                left -= weights[boat];
            }
            return NONE;
        }
    }
}
