import java.util.Random;

/** Makes TEXTS: some that give sensible numbers and points, some of anything that the grammar allows, some spoilt. */
final class Texts {
    private static final String LETTERS = "lswkrefcdghumo";
    private static final String ANY = "nptab:;?|&!()[]=<>+-*/0159lswkd ";
    private final Random random;

    Texts(Random random) {
        this.random = random;
    }

    private int upTo(int n) {
        return random.nextInt(n);
    }

    private String pick(String... all) {
        return all[upTo(all.length)];
    }

    /** A TEXT without FAULT, 200 bytes at most. */
    String good() {
        for (int tries = 0; tries < 50; tries++) {
            StringBuilder text = new StringBuilder();
            int clauses = 1 + upTo(6);
            for (int i = 0; i < clauses; i++) {
                if (i > 0) text.append(';');
                text.append(upTo(3) == 0 ? wild() : sensible());
            }
            String all = upTo(3) == 0 ? blanks(text.toString()) : text.toString();
            if (all.length() <= 200) return all;
        }
        return "n:l";
    }

    /** A TEXT with a CLAUSE for all that may be asked. */
    String whole() {
        String[] all = {"n:" + (400 + upTo(600)) + "+l*" + (1 + upTo(3)) + pick("", "+s/9", "-w/5"),
            pick("p:k=0?r;p:e*10+20", "p:k=0?r*r/10;p:f*30", "p:k=5?e*20;p:k=0?r+f;p:e*9", "p:r"),
            "t:" + pick("c/3", "c/2", "1", "c-1", "c>2?2", "0"),
            "a:" + pick(condition() + "?1", "d-2", "1", "o", "m-k"), "b:" + pick(condition() + "?1", "d-3", "1", "u", "m-k")};
        StringBuilder text = new StringBuilder(all[0]);
        for (int i = 1; i < all.length; i++) text.append(';').append(all[i]);
        return text.toString();
    }

    private String sensible() {
        switch (upTo(12)) {
            case 0: return "n:" + (400 + upTo(600)) + "+l*" + (1 + upTo(5)) + pick("", "+s", "-w", "+s-w");
            case 1: return "n:l" + pick("<", ">", "=") + upTo(400) + "?" + (450 + upTo(1600));
            case 2: return "n:l*" + (2 + upTo(9)) + "-w/" + upTo(9);
            case 3: return "p:k=0?r";
            case 4: return "p:" + pick("", "k>2?", "r>20?", "!f<3&e>2?") + "e*10+" + upTo(40);
            case 5: return "p:r" + pick("*r", "/10", "+k*50", "-f");
            case 6: return "t:" + pick("c/3", "c/2", "1", "c-1", "c>2?2", "c*5", "0-c", "c=1|c>3?1");
            case 7: return "a:" + condition() + "?1";
            case 8: return "b:" + condition() + "?1";
            case 9: return "a:" + pick("g", "u", "o", "d-2", "1", "0", "d-[m-k]");
            case 10: return "b:" + pick("h", "1-u", "o", "d-3", "1", "0", "m-k");
            default: return "p:k=0?r;p:e*10+10";
        }
    }

    private String condition() {
        String one = pick("g=1", "h=1", "g=0&h=1", "u=1", "!u=1", "d<2", "d<4", "d>1", "o=1", "m<k", "m>k+1", "d=2|d=3");
        if (upTo(2) == 0) return one;
        return pick(one + "&" + pick("g=h", "u=0", "d<5"), "!(" + one + ")", "(" + one + ")|o=1", one + "|h=0");
    }

    private String wild() {
        String label = pick("n", "p", "t", "a", "b");
        return label + ":" + (upTo(2) == 0 ? parts(upTo(4)) + "?" : "") + sum(upTo(4));
    }

    private String parts(int depth) {
        StringBuilder text = new StringBuilder(unit(depth));
        while (upTo(3) == 0) text.append(pick("|", "&")).append(unit(depth));
        return text.toString();
    }

    private String unit(int depth) {
        int way = depth > 0 ? upTo(4) : 0;
        if (way == 1) return "!" + unit(depth - 1);
        if (way == 2) return "(" + parts(depth - 1) + ")";
        return sum(depth) + pick("=", "<", ">") + sum(depth);
    }

    private String sum(int depth) {
        StringBuilder text = new StringBuilder(atom(depth));
        while (upTo(5) < 2) text.append(pick("+", "-", "*", "/", "*")).append(atom(depth));
        return text.toString();
    }

    private String atom(int depth) {
        if (depth > 0 && upTo(4) == 0) return "[" + sum(depth - 1) + "]";
        if (upTo(2) == 0) return String.valueOf(LETTERS.charAt(upTo(LETTERS.length())));
        return pick("0", "1", "2", "10", "007", String.valueOf(upTo(100)), String.valueOf(upTo(100000)), "99999");
    }

    private String blanks(String text) {
        StringBuilder all = new StringBuilder();
        for (int i = 0; i < text.length(); i++) {
            boolean inNumber = i > 0 && Character.isDigit(text.charAt(i - 1)) && Character.isDigit(text.charAt(i));
            if (!inNumber && i > 0 && upTo(6) == 0) all.append(upTo(4) == 0 ? "  " : " ");
            all.append(text.charAt(i));
        }
        return all.toString();
    }

    /** A TEXT with some of its bytes changed, left out or put in. */
    String spoilt() {
        StringBuilder text = new StringBuilder(upTo(4) == 0 ? deep() : good());
        int times = 1 + upTo(2);
        for (int i = 0; i < times; i++) {
            int at = upTo(text.length() + 1);
            char one = upTo(20) == 0 ? (char) (1 + upTo(255)) : ANY.charAt(upTo(ANY.length()));
            int way = upTo(4);
            if (way == 0) text.insert(at, one);
            else if (way == 1 && at < text.length()) text.setCharAt(at, one);
            else if (way == 2 && at < text.length()) text.deleteCharAt(at);
            else if (way == 3) text.setLength(at);
        }
        if (text.length() > 200) text.setLength(200);
        return text.toString();
    }

    /** A TEXT of many ( [ and ! within one another, about as many as may be. */
    private String deep() {
        StringBuilder open = new StringBuilder("p:");
        StringBuilder close = new StringBuilder();
        int depth = 6 + upTo(4);
        int brackets = upTo(depth + 1);
        for (int i = 0; i < depth; i++) {
            boolean bracket = i >= depth - brackets;
            boolean not = !bracket && upTo(2) == 0;
            open.append(bracket ? "[" : not ? "!" : "(");
            if (bracket) close.append("]");
        }
        StringBuilder text = new StringBuilder(open).append("k").append(close).append("=1");
        for (int i = open.length() - 1; i >= 0; i--) {
            if (open.charAt(i) == '(') text.append(")");
        }
        return text.append("?r").toString();
    }
}
