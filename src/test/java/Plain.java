import java.util.ArrayList;
import java.util.Arrays;
import java.util.HashMap;
import java.util.HashSet;
import java.util.LinkedHashMap;
import java.util.List;
import java.util.Map;
import java.util.NoSuchElementException;
import java.util.Set;

/** The document once more, written as plainly as can be and by other means than the class. */
final class Plain {
    private static final List<String> SORTS =
        Arrays.asList("at", "not", "run", "gap", "most", "least", "again", "link", "shift");
    private static final List<String> OTHERS = Arrays.asList("kind", "group", "length", "minutes");

    static final class Rule {
        String sort;
        int set;
        int a;
        int b;
    }

    static final class Verse {
        int poet;
        int minutes;
        int set;
        int[] words;
        boolean worn;
    }

    static final class Told {
        int kinds;
        int groups;
        int length = 36;
        int minutes = 99;
        Map<String, Integer> names = new HashMap<>();
        List<Rule> rules = new ArrayList<>();
    }

    StringBuilder tape = new StringBuilder();
    Told told = new Told();
    int year;
    List<Integer> ranks = new ArrayList<>();
    Set<Integer> passed = new HashSet<>();
    Map<String, Integer> values = new HashMap<>();
    Map<Integer, Map<Integer, Integer>> book = new HashMap<>();
    List<Verse> sheet = new ArrayList<>();
    List<Integer> types = new ArrayList<>();
    List<int[]> stored = new ArrayList<>();
    int[] full = new int[0];
    int[] can = new int[0];
    int states;
    int[] bestTry = new int[0];

    int feed(long a, long b, long c) {
        for (long part : new long[] {a, b, c}) {
            for (int i = 7; i >= 0; i--) {
                char one = (char) (part >>> 8 * i & 255);
                if (one != 0 && tape.length() < 600) {
                    tape.append(one);
                }
            }
        }
        return tape.length();
    }

    /** A fault goes up as an exception, so that the reading itself reads like the document. */
    private static final class Fault extends RuntimeException {
        private static final long serialVersionUID = 1;
        final int number;

        Fault(int place, int kind) {
            number = place * 10 + kind;
        }
    }

    private List<String> tokens;
    private List<Integer> places;
    private int at;

    int read() {
        String text = tape.toString();
        tape.setLength(0);
        tokens = new ArrayList<>();
        places = new ArrayList<>();
        split(text);
        at = 0;
        Told next = new Told();
        try {
            while (!peek().isEmpty()) {
                telling(next);
                sign(";");
            }
        } catch (Fault fault) {
            return fault.number;
        }
        told = next;
        passed.clear();
        values.clear();
        book.clear();
        sheet.clear();
        types.clear();
        stored.clear();
        full = new int[0];
        can = new int[0];
        bestTry = new int[0];
        states = 0;
        return 0;
    }

    private void split(String text) {
        java.util.regex.Matcher m =
            java.util.regex.Pattern.compile("[a-z]+|[0-9]+|[^ \n]", java.util.regex.Pattern.DOTALL).matcher(text);
        while (m.find()) {
            tokens.add(m.group());
            places.add(m.start());
        }
        tokens.add("");
        places.add(text.length());
    }

    private String peek() {
        return tokens.get(at);
    }

    private int place() {
        return places.get(at);
    }

    private void sign(String sign) {
        if (!peek().equals(sign)) {
            throw new Fault(place(), 1);
        }
        at++;
    }

    private int number(int least, int most) {
        if (!peek().matches("[0-9]{1,3}")) {
            throw new Fault(place(), 1);
        }
        int n = Integer.parseInt(peek());
        if (n < least || n > most) {
            throw new Fault(place(), 5);
        }
        at++;
        return n;
    }

    private String name() {
        if (!peek().matches("[a-z]{1,8}") || SORTS.contains(peek()) || OTHERS.contains(peek())) {
            throw new Fault(place(), 1);
        }
        return tokens.get(at++);
    }

    private int toldName(Told next) {
        int where = place();
        String name = name();
        if (!next.names.containsKey(name)) {
            throw new Fault(where, 4);
        }
        return next.names.get(name);
    }

    private String newName(Told next) {
        int where = place();
        String name = name();
        if (next.names.containsKey(name)) {
            throw new Fault(where, 3);
        }
        return name;
    }

    private void telling(Told next) {
        String word = peek();
        int where = place();
        boolean isRule = SORTS.contains(word);
        if (!isRule && !OTHERS.contains(word)) {
            throw new Fault(where, 1);
        }
        at++;
        if (word.equals("kind") && next.kinds == 8 || word.equals("group") && next.groups == 8
            || isRule && next.rules.size() == 12) {
            throw new Fault(where, 2);
        }
        if (word.equals("kind")) {
            next.names.put(newName(next), 1 << next.kinds++);
        } else if (word.equals("group")) {
            String name = newName(next);
            sign("=");
            int set = toldName(next);
            while (peek().equals(",")) {
                at++;
                set |= toldName(next);
            }
            next.names.put(name, set);
            next.groups++;
        } else if (word.equals("length")) {
            next.length = number(1, 48);
        } else if (word.equals("minutes")) {
            next.minutes = number(1, 99);
        } else {
            next.rules.add(rule(next, word));
        }
    }

    private Rule rule(Told next, String sort) {
        Rule r = new Rule();
        r.sort = sort;
        if (sort.equals("at") || sort.equals("not")) {
            r.a = number(1, 48);
            sign("-");
            r.b = number(r.a, 48);
            r.set = toldName(next);
        } else if (sort.equals("run")) {
            r.set = toldName(next);
            r.a = number(1, 9);
            sign("-");
            r.b = number(r.a, 9);
        } else if (sort.equals("again")) {
            r.a = number(1, 9);
        } else if (!sort.equals("link") && !sort.equals("shift")) {
            r.set = toldName(next);
            r.a = number(sort.equals("most") ? 0 : 1, sort.equals("gap") ? 9 : 48);
        }
        return r;
    }

    int poet(int rank) {
        if (rank < 0 || rank > 99 || ranks.size() == 12) {
            return -1;
        }
        ranks.add(rank);
        return ranks.size() - 1;
    }

    private int versesOf(int poet) {
        return (int) sheet.stream().filter(v -> v.poet == poet).count();
    }

    int turn() {
        if (ranks.isEmpty() || sheet.size() == told.length) {
            return -1;
        }
        int best = -1;
        for (int i = 0; i < ranks.size(); i++) {
            if (passed.contains(i)) {
                continue;
            }
            if (best < 0 || versesOf(i) < versesOf(best)
                || versesOf(i) == versesOf(best) && ranks.get(i) < ranks.get(best)) {
                best = i;
            }
        }
        return best;
    }

    private void passes(int poet) {
        passed.add(poet);
        if (passed.size() == ranks.size()) {
            passed.clear();
        }
    }

    int pass() {
        if (turn() < 0) {
            return -1;
        }
        passes(turn());
        return turn();
    }

    boolean year(int y) {
        boolean is = y >= 0 && y <= 9999;
        year = is ? y : year;
        return is;
    }

    private boolean noSet(int set) {
        for (int bit = 0; bit < 32; bit++) {
            if ((set >>> bit & 1) != 0 && bit >= told.kinds) {
                return true;
            }
        }
        return false;
    }

    private int entries() {
        return book.values().stream().mapToInt(Map::size).sum();
    }

    int entry(int word, int from, int set) {
        if (word < 0 || word > 29 || from < 0 || from > 9999 || noSet(set)) {
            return -1;
        }
        Map<Integer, Integer> of = book.computeIfAbsent(word, k -> new HashMap<>());
        if (!of.containsKey(from) && entries() == 100) {
            return -1;
        }
        of.put(from, set);
        return entries();
    }

    int word(int word) {
        if (word < 0 || word > 29) {
            return -1;
        }
        Map<Integer, Integer> of = book.getOrDefault(word, new HashMap<>());
        for (int y = year; y >= 0; y--) {
            if (of.containsKey(y)) {
                return of.get(y);
            }
        }
        return 0;
    }

    private int valueOf(int a, int b) {
        return values.getOrDefault(Math.min(a, b) + "," + Math.max(a, b), 0);
    }

    int like(int a, int b, int value) {
        if (a < 0 || b < 0 || a >= told.kinds || b >= told.kinds || value < -9 || value > 9) {
            return -100;
        }
        int was = valueOf(a, b);
        values.put(Math.min(a, b) + "," + Math.max(a, b), value);
        return was;
    }

    int liking(int a, int b) {
        if (noSet(a) || noSet(b)) {
            throw new NoSuchElementException();
        }
        int sum = 0;
        for (int i = 0; i < 8; i++) {
            for (int j = 0; j < 8; j++) {
                sum += (a >> i & 1) * (b >> j & 1) * valueOf(i, j);
            }
        }
        return sum;
    }

    private boolean linked(int a, int b) {
        return (a & b) != 0 || liking(a, b) > 0;
    }

    private static boolean noWords(int... words) {
        for (int word : words) {
            if (word < -1 || word > 29) {
                return true;
            }
        }
        return false;
    }

    private Verse verseOfWords(int a, int b, int c) {
        Verse v = new Verse();
        v.words = new int[] {a, b, c};
        for (int word : v.words) {
            v.set |= word == -1 ? 0 : word(word);
        }
        return v;
    }

    private boolean isWorn() {
        return sheet.stream().anyMatch(v -> v.worn);
    }

    /** How long the run of a name is that ends on index i of a row (0: none). */
    private static int runEnding(List<Verse> row, int i, int set) {
        int many = 0;
        while (i - many >= 0 && (row.get(i - many).set & set) != 0) {
            many++;
        }
        return many;
    }

    private static int having(List<Verse> row, int set) {
        return (int) row.stream().filter(v -> (v.set & set) != 0).count();
    }

    /** Whether the last verse of a row breaks a rule. */
    private boolean breaksRule(List<Verse> row, Rule r, boolean withAgain) {
        int i = row.size() - 1;
        int p = row.size();
        int set = row.get(i).set;
        boolean has = (set & r.set) != 0;
        switch (r.sort) {
            case "at": return p >= r.a && p <= r.b && !has;
            case "not": return p >= r.a && p <= r.b && has;
            case "run":
                int own = runEnding(row, i, r.set);
                int ahead = runEnding(row, i - 1, r.set);
                return own > r.b || own == 0 && ahead > 0 && ahead < r.a || p == told.length && own > 0 && own < r.a;
            case "gap":
                if (runEnding(row, i, r.set) != 1) {
                    return false;
                }
                for (int j = i - 1; j >= 0; j--) {
                    if ((row.get(j).set & r.set) != 0) {
                        return i - j - 1 < r.a;
                    }
                }
                return false;
            case "most": return has && having(row, r.set) > r.a;
            case "least": return having(row, r.set) + told.length - p < r.a;
            case "again":
                for (int j = Math.max(0, i - r.a); withAgain && j < i; j++) {
                    for (int w : row.get(j).words) {
                        for (int mine : row.get(i).words) {
                            if (w == mine && w != -1) {
                                return true;
                            }
                        }
                    }
                }
                return false;
            case "link": return i >= 1 && !linked(row.get(i - 1).set, set);
            default: return i >= 2 && linked(row.get(i - 2).set, set);
        }
    }

    private int firstBroken(List<Verse> row, boolean withAgain) {
        for (int i = 0; i < told.rules.size(); i++) {
            if (breaksRule(row, told.rules.get(i), withAgain)) {
                return i;
            }
        }
        return -1;
    }

    int verse(int minutes, int a, int b, int c) {
        int poet = turn();
        if (poet < 0 || noWords(a, b, c) || minutes < 0 || minutes > 999) {
            return -1;
        }
        if (isWorn()) {
            return -9;
        }
        if (minutes > told.minutes) {
            passes(poet);
            return -3;
        }
        int broken = breaks(a, b, c);
        if (broken >= 0) {
            return -10 - broken;
        }
        Verse v = verseOfWords(a, b, c);
        v.poet = poet;
        v.minutes = minutes;
        sheet.add(v);
        passed.clear();
        return sheet.size();
    }

    int breaks(int a, int b, int c) {
        if (sheet.size() == told.length || noWords(a, b, c)) {
            return -2;
        }
        if (isWorn()) {
            return -9;
        }
        List<Verse> row = new ArrayList<>(sheet);
        row.add(verseOfWords(a, b, c));
        return firstBroken(row, true);
    }

    int back() {
        if (sheet.isEmpty()) {
            return -1;
        }
        passed.clear();
        sheet.remove(sheet.size() - 1);
        return sheet.size() + 1;
    }

    boolean worn(int place, boolean is) {
        if (place < 1 || place > sheet.size() || sheet.get(place - 1).worn == is) {
            return false;
        }
        sheet.get(place - 1).worn = is;
        return true;
    }

    int type(int set) {
        if (noSet(set) || types.contains(set) || types.size() == 16) {
            return -1;
        }
        types.add(set);
        return types.size() - 1;
    }

    private boolean stands(int place) {
        return place <= sheet.size() && !sheet.get(place - 1).worn;
    }

    /** The state behind a row, as the document tells it: from the whole row. */
    private String stateOf(List<Verse> row) {
        StringBuilder state = new StringBuilder();
        int n = row.size();
        state.append(n > 0 ? row.get(n - 1).set : -1).append('/').append(n > 1 ? row.get(n - 2).set : -1);
        for (Rule r : told.rules) {
            int number = 0;
            if (r.sort.equals("run")) {
                number = runEnding(row, n - 1, r.set);
            } else if (r.sort.equals("gap")) {
                while (number < r.a && (n - 1 - number < 0 || (row.get(n - 1 - number).set & r.set) == 0)) {
                    number++;
                }
            } else if (r.sort.equals("most")) {
                number = having(row, r.set);
            } else if (r.sort.equals("least")) {
                number = Math.min(r.a, having(row, r.set));
            }
            state.append(' ').append(number);
        }
        return state.toString();
    }

    private List<Integer> setsOn(int place) {
        return stands(place) ? List.of(sheet.get(place - 1).set) : types;
    }

    private static List<Verse> longer(List<Verse> row, int set) {
        Verse v = new Verse();
        v.set = set;
        v.words = new int[0];
        List<Verse> more = new ArrayList<>(row);
        more.add(v);
        return more;
    }

    /** By place the states behind it, each with one of its rows. */
    private List<Map<String, List<Verse>>> layers;

    int ends() {
        full = new int[0];
        can = new int[0];
        states = 1;
        layers = new ArrayList<>();
        Map<String, List<Verse>> layer = new LinkedHashMap<>();
        layer.put(stateOf(new ArrayList<>()), new ArrayList<>());
        layers.add(layer);
        for (int place = 1; place <= told.length; place++) {
            Map<String, List<Verse>> next = new LinkedHashMap<>();
            for (List<Verse> row : layer.values()) {
                for (int set : setsOn(place)) {
                    List<Verse> more = longer(row, set);
                    if (firstBroken(more, false) < 0) {
                        next.putIfAbsent(stateOf(more), more);
                    }
                }
            }
            states += Math.min(401, next.size());
            if (next.size() > 400) {
                return -4;
            }
            layers.add(next);
            layer = next;
        }
        if (layer.isEmpty()) {
            return 0;
        }
        tell();
        return 1;
    }

    private void tell() {
        List<Set<String>> alive = new ArrayList<>();
        for (int i = 0; i <= told.length; i++) {
            alive.add(new HashSet<>());
        }
        alive.get(told.length).addAll(layers.get(told.length).keySet());
        can = new int[told.length + 1];
        full = new int[told.length + 1];
        for (int place = told.length; place >= 1; place--) {
            for (Map.Entry<String, List<Verse>> one : layers.get(place - 1).entrySet()) {
                for (int i = 0; i < setsOn(place).size(); i++) {
                    if (isAlive(one.getValue(), setsOn(place).get(i), alive.get(place))) {
                        alive.get(place - 1).add(one.getKey());
                        can[place] |= 1 << i;
                    }
                }
            }
        }
        List<Verse> row = new ArrayList<>();
        for (int place = 1; place <= told.length; place++) {
            int i = 0;
            while (!isAlive(row, setsOn(place).get(i), alive.get(place))) {
                i++;
            }
            full[place] = stands(place) ? -1 : i;
            can[place] = stands(place) ? -1 : can[place];
            row = longer(row, setsOn(place).get(i));
        }
    }

    private boolean isAlive(List<Verse> row, int set, Set<String> alive) {
        List<Verse> more = longer(row, set);
        return firstBroken(more, false) < 0 && alive.contains(stateOf(more));
    }

    int full(int place) {
        return place < 1 || place >= full.length ? -1 : full[place];
    }

    int can(int place) {
        return place < 1 || place >= can.length ? -1 : can[place];
    }

    /** All full sheets one by one: answers 1 or 0 and puts full and can anew; for few places only. */
    int endsByHand() {
        full = new int[0];
        can = new int[told.length + 1];
        goOn(new ArrayList<>(), new ArrayList<>());
        for (int place = 1; place <= told.length; place++) {
            can[place] = stands(place) ? -1 : can[place];
        }
        if (full.length == 0) {
            can = new int[0];
        }
        return full.length == 0 ? 0 : 1;
    }

    private void goOn(List<Verse> row, List<Integer> picks) {
        if (row.size() == told.length) {
            if (full.length == 0) {
                full = new int[told.length + 1];
                for (int place = 1; place <= told.length; place++) {
                    full[place] = stands(place) ? -1 : picks.get(place - 1);
                }
            }
            for (int place = 1; place <= told.length; place++) {
                can[place] |= 1 << picks.get(place - 1);
            }
            return;
        }
        List<Integer> sets = setsOn(row.size() + 1);
        for (int i = 0; i < sets.size(); i++) {
            List<Verse> more = longer(row, sets.get(i));
            if (firstBroken(more, false) < 0) {
                List<Integer> morePicks = new ArrayList<>(picks);
                morePicks.add(i);
                goOn(more, morePicks);
            }
        }
    }

    int store(int a, int b, int c) {
        if (noWords(a, b, c) || stored.size() == 20) {
            return -1;
        }
        stored.add(new int[] {a, b, c});
        return stored.size() - 1;
    }

    private int bestWorth;

    int best(int m) {
        bestTry = new int[0];
        if (m < 1 || m > 3) {
            return -102;
        }
        if (isWorn()) {
            return -109;
        }
        tryOn(new ArrayList<>(sheet), new int[0], m, 0);
        return bestTry.length == 0 ? -100 : bestWorth;
    }

    private void tryOn(List<Verse> row, int[] picks, int m, int worth) {
        if (picks.length == m) {
            if (bestTry.length == 0 || worth > bestWorth) {
                bestTry = picks;
                bestWorth = worth;
            }
            return;
        }
        for (int i = 0; i < stored.size() && row.size() < told.length; i++) {
            int pick = i;
            if (Arrays.stream(picks).anyMatch(p -> p == pick)) {
                continue;
            }
            int[] words = stored.get(i);
            List<Verse> more = new ArrayList<>(row);
            more.add(verseOfWords(words[0], words[1], words[2]));
            if (firstBroken(more, true) < 0) {
                int[] morePicks = Arrays.copyOf(picks, picks.length + 1);
                morePicks[picks.length] = i;
                int n = more.size();
                int add = n == 1 ? 0 : liking(more.get(n - 2).set, more.get(n - 1).set);
                tryOn(more, morePicks, m, worth + add);
            }
        }
    }

    int bestOf(int i) {
        return i < 0 || i >= bestTry.length ? -1 : bestTry[i];
    }

    int verseOf(int place, int what) {
        if (place < 1 || place > sheet.size() || what < 0 || what > 8) {
            return -1;
        }
        Verse v = sheet.get(place - 1);
        int one = place > 1 && linked(sheet.get(place - 2).set, v.set) ? 1 : 0;
        int two = place > 2 && linked(sheet.get(place - 3).set, v.set) ? 1 : 0;
        return new int[] {
            v.poet, v.set, v.words[0], v.words[1], v.words[2], v.worn ? 1 : 0, v.minutes, one, two}[what];
    }

    int poetOf(int poet, int what) {
        if (poet < 0 || poet >= ranks.size() || what < 0 || what > 2) {
            return -1;
        }
        return new int[] {ranks.get(poet), versesOf(poet), passed.contains(poet) ? 1 : 0}[what];
    }

    int ruleOf(int rule, int what) {
        if (rule < 0 || rule >= told.rules.size() || what < 0 || what > 4) {
            return -1;
        }
        Rule r = told.rules.get(rule);
        return new int[] {SORTS.indexOf(r.sort), r.set, r.a, r.b, having(sheet, r.set)}[what];
    }

    int count(int what) {
        if (what < 0 || what > 12) {
            return -1;
        }
        int worn = (int) sheet.stream().filter(v -> v.worn).count();
        return new int[] {
            told.kinds, told.groups, told.rules.size(), told.length, told.minutes, sheet.size(), ranks.size(),
            types.size(), entries(), stored.size(), tape.length(), worn, states}[what];
    }
}
