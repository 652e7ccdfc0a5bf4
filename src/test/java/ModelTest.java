import java.util.NoSuchElementException;
import java.util.Random;

/** Runs of 512 calls, always the same ones, on the class and on the plain model side by side. */
public final class ModelTest {
    private static final String[] NAMES = {"a", "b", "moon", "love", "c", "d", "e", "blossoms", "g", "h", "sky", "x"};
    private static final Check check = new Check();

    private final Random random;
    private final int seed;
    private final LinkedVerse x = new LinkedVerse();
    private final Plain y = new Plain();
    private int calls;

    private ModelTest(int seed) {
        this.seed = seed;
        random = new Random(seed);
    }

    public static void main(String[] args) {
        int runs = args.length > 0 ? Integer.parseInt(args[0]) : 250;
        int first = args.length > 1 ? Integer.parseInt(args[1]) : 1;
        for (int seed = first; seed < first + runs && check.isClean(); seed++) {
            new ModelTest(seed).run();
        }
        check.end();
    }

    private void same(String call, long got, long due) {
        calls++;
        check.same("seed " + seed + ", call " + calls + ": " + call, got, due);
    }

    private int below(int n) {
        return random.nextInt(n);
    }

    private boolean oneOf(int n) {
        return random.nextInt(n) == 0;
    }

    private void run() {
        int poets = 1 + below(4);
        for (int i = 0; i < poets; i++) {
            poet();
        }
        tell(text());
        fillBook();
        int mood = below(3);
        while (calls < 512 && check.isClean()) {
            if (oneOf(200)) {
                tell(oneOf(2) ? text() : spoilt(text()));
                fillBook();
            } else {
                call(mood);
            }
        }
        lookAtAll();
    }

    private void fillBook() {
        for (int i = below(30); i >= 0; i--) {
            entry();
        }
        for (int i = below(6); i >= 0; i--) {
            like();
        }
        for (int i = below(8); i >= 0; i--) {
            type();
        }
    }

    private void poet() {
        int rank = oneOf(20) ? 98 + below(4) : below(5) - (oneOf(20) ? 3 : 0);
        same("poet(" + rank + ")", x.poet(rank), y.poet(rank));
    }

    private int set() {
        int kinds = Math.max(1, y.told.kinds);
        return oneOf(30) ? random.nextInt() : below(1 << kinds) & (oneOf(2) ? -1 : below(256));
    }

    private int wordOrNone() {
        return oneOf(100) ? below(100) - 50 : oneOf(3) ? -1 : below(12);
    }

    private void entry() {
        int word = oneOf(50) ? below(60) - 20 : below(12);
        int year = oneOf(50) ? below(30000) - 10000 : below(4) * 10;
        int set = set();
        same("entry(" + word + ", " + year + ", " + set + ")", x.entry(word, year, set), y.entry(word, year, set));
    }

    private void like() {
        int a = oneOf(30) ? random.nextInt() : below(Math.max(1, y.told.kinds));
        int b = oneOf(30) ? below(20) - 10 : below(Math.max(1, y.told.kinds));
        int value = oneOf(30) ? below(40) - 20 : below(8) - 4;
        same("like(" + a + ", " + b + ", " + value + ")", x.like(a, b, value), y.like(a, b, value));
    }

    private void type() {
        int set = set();
        same("type(" + set + ")", x.type(set), y.type(set));
    }

    private void call(int mood) {
        switch (below(26)) {
            case 0: if (oneOf(4)) { poet(); } break;
            case 1: same("turn()", x.turn(), y.turn()); break;
            case 2: same("pass()", x.pass(), y.pass()); break;
            case 3: int year = oneOf(20) ? below(30000) - 10000 : below(50);
                same("year(" + year + ")", x.year(year) ? 1 : 0, y.year(year) ? 1 : 0); break;
            case 4: entry(); break;
            case 5: int word = below(34) - 2; same("word(" + word + ")", x.word(word), y.word(word)); break;
            case 6: if (mood == 1 || oneOf(3)) { like(); } break;
            case 7: liking(); break;
            case 8: case 9: case 10: case 11: case 12: verse(); break;
            case 13: case 14: breaks(); break;
            case 15: if (mood != 2 || oneOf(3)) { same("back()", x.back(), y.back()); } break;
            case 16: worn(); break;
            case 17: if (oneOf(3)) { type(); } break;
            case 18: if (oneOf(mood == 0 ? 2 : 6)) { ends(); } break;
            case 19: int p = below(52) - 2; same("full(" + p + ")", x.full(p), y.full(p));
                same("can(" + p + ")", x.can(p), y.can(p)); break;
            case 20: store(); break;
            case 21: best(); break;
            case 22: int place = below(y.sheet.size() + 3) - 1; int what = below(11) - 1;
                same("verseOf(" + place + ", " + what + ")", x.verseOf(place, what), y.verseOf(place, what)); break;
            case 23: int poet = below(14) - 1; int of = below(5) - 1;
                same("poetOf(" + poet + ", " + of + ")", x.poetOf(poet, of), y.poetOf(poet, of)); break;
            case 24: int rule = below(14) - 1; int part = below(7) - 1;
                same("ruleOf(" + rule + ", " + part + ")", x.ruleOf(rule, part), y.ruleOf(rule, part)); break;
            default: int many = below(15) - 1; same("count(" + many + ")", x.count(many), y.count(many)); break;
        }
    }

    private void liking() {
        int a = set();
        int b = set();
        long got;
        long due;
        try {
            got = x.liking(a, b);
        } catch (NoSuchElementException e) {
            got = Long.MAX_VALUE;
        }
        try {
            due = y.liking(a, b);
        } catch (NoSuchElementException e) {
            due = Long.MAX_VALUE;
        }
        same("liking(" + a + ", " + b + ")", got, due);
    }

    private void verse() {
        int minutes = oneOf(30) ? below(2000) - 500 : oneOf(10) ? y.told.minutes + below(3) - 1 : 0;
        int a = wordOrNone();
        int b = wordOrNone();
        int c = oneOf(2) ? -1 : wordOrNone();
        for (int i = 0; i < 6 && y.breaks(a, b, c) >= 0; i++) {
            a = wordOrNone();
            b = wordOrNone();
            c = -1;
        }
        same("verse(" + minutes + ", " + a + ", " + b + ", " + c + ")", x.verse(minutes, a, b, c), y.verse(minutes, a, b, c));
    }

    private void breaks() {
        int a = wordOrNone();
        int b = wordOrNone();
        int c = wordOrNone();
        same("breaks(" + a + ", " + b + ", " + c + ")", x.breaks(a, b, c), y.breaks(a, b, c));
    }

    private void worn() {
        boolean is = oneOf(3);
        int place = below(y.sheet.size() + 3) - 1;
        same("worn(" + place + ", " + is + ")", x.worn(place, is) ? 1 : 0, y.worn(place, is) ? 1 : 0);
    }

    private void ends() {
        int due = y.ends();
        same("ends()", x.ends(), due);
        same("count(12)", x.count(12), y.count(12));
        if (due >= 0 && Math.pow(Math.max(1, y.types.size()), y.told.length) < 5000) {
            check.same("seed " + seed + ": by hand", due, y.endsByHand());
        }
        for (int place = 1; place <= y.told.length; place++) {
            check.same("seed " + seed + ", call " + calls + ": full(" + place + ")", x.full(place), y.full(place));
            check.same("seed " + seed + ", call " + calls + ": can(" + place + ")", x.can(place), y.can(place));
        }
    }

    private void store() {
        int a = wordOrNone();
        int b = wordOrNone();
        int c = oneOf(2) ? -1 : wordOrNone();
        same("store(" + a + ", " + b + ", " + c + ")", x.store(a, b, c), y.store(a, b, c));
    }

    private void best() {
        int m = oneOf(10) ? below(7) - 2 : 1 + below(3);
        same("best(" + m + ")", x.best(m), y.best(m));
        for (int i = -1; i < 4; i++) {
            same("bestOf(" + i + ")", x.bestOf(i), y.bestOf(i));
        }
    }

    private void lookAtAll() {
        for (int what = 0; what < 13; what++) {
            check.same("seed " + seed + ": count(" + what + ")", x.count(what), y.count(what));
        }
        for (int place = 1; place <= y.sheet.size(); place++) {
            for (int what = 0; what < 9; what++) {
                check.same("seed " + seed + ": verseOf(" + place + ", " + what + ")",
                    x.verseOf(place, what), y.verseOf(place, what));
            }
        }
        for (int rule = 0; rule < 12; rule++) {
            for (int what = 0; what < 5; what++) {
                check.same("seed " + seed + ": ruleOf(" + rule + ", " + what + ")",
                    x.ruleOf(rule, what), y.ruleOf(rule, what));
            }
        }
        for (int poet = 0; poet < 12; poet++) {
            for (int what = 0; what < 3; what++) {
                check.same("seed " + seed + ": poetOf(" + poet + ", " + what + ")",
                    x.poetOf(poet, what), y.poetOf(poet, what));
            }
        }
    }

    private void tell(String text) {
        for (int i = 0; i < text.length(); ) {
            long[] parts = new long[3];
            for (int k = 0; k < 3; k++) {
                for (int n = 1 + below(8); n > 0 && i < text.length(); n--) {
                    parts[k] = parts[k] << 8 | text.charAt(i++);
                }
                parts[k] <<= oneOf(2) ? 0 : 8 * (Long.numberOfLeadingZeros(parts[k]) / 8 % 8);
            }
            same("feed", x.feed(parts[0], parts[1], parts[2]), y.feed(parts[0], parts[1], parts[2]));
        }
        same("read() of <" + text + ">", x.read(), y.read());
    }

    private String blank() {
        return oneOf(6) ? oneOf(2) ? "\n" : "  " : "";
    }

    private String text() {
        StringBuilder t = new StringBuilder();
        int kinds = 1 + below(oneOf(4) ? 8 : 4);
        for (int i = 0; i < kinds; i++) {
            t.append("kind ").append(NAMES[i]).append(blank()).append(';');
        }
        int groups = below(3);
        for (int i = 0; i < groups; i++) {
            t.append("group ").append(NAMES[8 + i]).append(blank()).append('=').append(NAMES[below(kinds)]);
            while (oneOf(2)) {
                t.append(',').append(blank()).append(oneOf(4) && i > 0 ? NAMES[8] : NAMES[below(kinds)]);
            }
            t.append(';');
        }
        if (!oneOf(8)) {
            t.append("length ").append(oneOf(3) ? 1 + below(48) : 1 + below(7)).append(';');
        }
        if (oneOf(2)) {
            t.append("minutes ").append(1 + below(99)).append(';');
        }
        boolean areManyCounting = oneOf(6);
        for (int i = areManyCounting ? 10 + below(3) : below(oneOf(5) ? 13 : 5); i > 0; i--) {
            String name = groups > 0 && oneOf(3) ? NAMES[8 + below(groups)] : NAMES[below(kinds)];
            t.append(areManyCounting ? looseRule(name) : rule(name)).append(blank()).append(';').append(blank());
        }
        return t.toString();
    }

    private String rule(String name) {
        int a = 1 + below(6);
        int b = a + below(3);
        switch (below(9)) {
            case 0: return "at " + a + "-" + b + " " + name;
            case 1: return "not " + a + blank() + "-" + b + blank() + name;
            case 2: return "run " + name + " " + (1 + a / 3) + "-" + (1 + a / 3 + below(3));
            case 3: return "gap " + name + " " + (1 + below(oneOf(4) ? 9 : 3));
            case 4: return "most " + name + " " + below(oneOf(3) ? 49 : 6);
            case 5: return "least " + name + " " + (1 + below(oneOf(6) ? 48 : 3));
            case 6: return "again " + (1 + below(oneOf(3) ? 9 : 2));
            case 7: return "link";
            default: return "shift";
        }
    }

    /** One that keeps a number but seldom breaks, so that many of them leave something to be told. */
    private String looseRule(String name) {
        switch (below(4)) {
            case 0: return "run " + name + " 1-" + (2 + below(8));
            case 1: return "gap " + name + " " + (1 + below(2));
            case 2: return "most " + name + " " + (2 + below(47));
            default: return "least " + name + " 1";
        }
    }

    private String spoilt(String text) {
        StringBuilder t = new StringBuilder(text);
        String bits = "abklmz019;=,- \nA.;" + (char) 200;
        for (int i = 1 + below(2); i > 0; i--) {
            int where = below(t.length() + 1);
            int how = below(5);
            if (how == 0 && where < t.length()) {
                t.deleteCharAt(where);
            } else if (how == 1) {
                t.setLength(where);
            } else if (how == 2) {
                t.append(oneOf(2) ? text : "kind " + NAMES[below(12)] + ";");
            } else if (how == 3 && where < t.length()) {
                t.setCharAt(where, bits.charAt(below(bits.length())));
            } else {
                t.insert(where, bits.charAt(below(bits.length())));
            }
        }
        return t.toString();
    }
}
