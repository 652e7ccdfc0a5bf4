import java.util.NoSuchElementException;

/** Years, entries, words and values, promises 7 to 11: each sentence that names an edge has a test of its own. */
public final class BookEdgeTest {
    private static final int NONE = LinkedVerse.NONE;
    private static final Check check = new Check();

    public static void main(String[] args) {
        check.sentence("A SET has some KINDS (as bits: 1 for KIND 0, 2 for 1, 4 ..)", BookEdgeTest::setsAreBits);
        check.sentence("A WORD of the BOOK (0 .. 29)", BookEdgeTest::wordsOfBook);
        check.sentence("that of the entry with the greatest year not above YEAR", BookEdgeTest::greatestYear);
        check.sentence("(of one year the latest told)", BookEdgeTest::latestTold);
        check.sentence("the empty SET without one", BookEdgeTest::withoutEntry);
        check.sentence("VALUE of two KINDS (of one with itself, too) is told", BookEdgeTest::valueOfTwo);
        check.sentence("-9 .. 9 (0 at first)", BookEdgeTest::valuesAtFirst);
        check.sentence("LIKING of two SETS: the sum of VALUES of all pairs, one KIND of each", BookEdgeTest::allPairs);
        check.sentence("They are LINKED if they have a KIND together", BookEdgeTest::kindTogether);
        check.sentence("or their LIKING is above 0", BookEdgeTest::likingAboveZero);
        check.sentence("7: YEAR becomes this (0 .. 9999): true", BookEdgeTest::years);
        check.sentence("7: false for others", BookEdgeTest::noYears);
        check.sentence("8: a WORD (0 .. 29) has a SET from a year on (0 .. 9999)", BookEdgeTest::entries);
        check.sentence("8: how many entries there are", BookEdgeTest::howManyEntries);
        check.sentence("8: NONE: no such ones", BookEdgeTest::noSuchEntries);
        check.sentence("8: (a SET has KINDS that there are)", BookEdgeTest::setsOfEntries);
        check.sentence("8: or 100 are there", BookEdgeTest::hundredEntries);
        check.sentence("8: (of one WORD and year it is put in place of what there was, and that is no more entry)", BookEdgeTest::inPlace);
        check.sentence("9: The SET of a WORD by YEAR; NONE: another number", BookEdgeTest::anotherWord);
        check.sentence("10: VALUE of two KINDS: what it was", BookEdgeTest::whatItWas);
        check.sentence("10: -100 for no such KINDS", BookEdgeTest::noSuchKinds);
        check.sentence("10: another number", BookEdgeTest::anotherValue);
        check.sentence("11: NoSuchElementException: they have others than KINDS that there are", BookEdgeTest::likingThrows);
        check.end();
    }

    private static void due(String call, long got, long want) {
        check.same(call, got, want);
    }

    private static void due(String call, boolean got, boolean want) {
        check.same(call, got, want);
    }

    private static void setsAreBits() {
        LinkedVerse x = Check.told(Rooms.kinds(8));
        for (int kind = 0; kind < 8; kind++) {
            due("entry of kind " + kind, x.entry(kind, 0, 1 << kind), kind + 1);
            due("word of kind " + kind, x.word(kind), 1 << kind);
        }
        due("all of them", x.entry(8, 0, 255), 9);
        due("word of all", x.word(8), 255);
        due("none of them", x.entry(9, 0, 0), 10);
        due("a ninth", x.entry(9, 0, 256), -1);
    }

    private static void wordsOfBook() {
        LinkedVerse x = Check.told("kind a;");
        due("word 0", x.entry(0, 0, 1), 1);
        due("word 29", x.entry(29, 0, 1), 2);
        due("word -1", x.entry(-1, 0, 1), -1);
        due("word 30", x.entry(30, 0, 1), -1);
        due("set of 0", x.word(0), 1);
        due("set of 29", x.word(29), 1);
        due("set of 28", x.word(28), 0);
    }

    private static void greatestYear() {
        LinkedVerse x = Check.told(Rooms.kinds(3));
        x.entry(3, 20, 2);
        x.entry(3, 10, 1);
        x.entry(3, 30, 4);
        int[][] due = {{0, 0}, {9, 0}, {10, 1}, {11, 1}, {19, 1}, {20, 2}, {21, 2}, {29, 2}, {30, 4}, {31, 4}, {9999, 4}, {15, 1}};
        for (int[] pair : due) {
            x.year(pair[0]);
            due("in " + pair[0], x.word(3), pair[1]);
        }
        x.entry(3, 14, 0);
        due("an empty set is one", x.word(3), 0);
        x.entry(4, 0, 5);
        due("from year 0 on", x.word(4), 5);
        x.year(9998);
        x.entry(5, 9999, 7);
        due("in 9998", x.word(5), 0);
        x.year(9999);
        due("in 9999", x.word(5), 7);
    }

    private static void latestTold() {
        LinkedVerse x = Check.told(Rooms.kinds(3));
        x.entry(3, 10, 1);
        x.entry(3, 20, 2);
        x.entry(3, 10, 4);
        x.year(10);
        due("the latest", x.word(3), 4);
        x.year(20);
        due("of a greater year the greater", x.word(3), 2);
        x.entry(3, 20, 0);
        due("the latest, empty", x.word(3), 0);
    }

    private static void withoutEntry() {
        LinkedVerse x = Check.told("kind a;");
        due("no entry at all", x.word(0), 0);
        x.entry(1, 0, 1);
        due("of another word", x.word(0), 0);
        x.entry(0, 1, 1);
        due("from a later year on", x.word(0), 0);
    }

    private static void valueOfTwo() {
        LinkedVerse x = Check.told(Rooms.kinds(8));
        due("two", x.like(0, 7, 3), 0);
        due("either way", x.like(7, 0, 4), 3);
        due("with itself", x.like(7, 7, -2), 0);
        due("itself was", x.like(7, 7, 0), -2);
        due("two still", x.like(0, 7, 0), 4);
        due("0 with itself", x.like(0, 0, 9), 0);
    }

    private static void valuesAtFirst() {
        LinkedVerse x = Check.told(Rooms.kinds(3));
        for (int a = 0; a < 3; a++) {
            for (int b = a; b < 3; b++) {
                due("at first " + a + " " + b, x.like(a, b, -9), 0);
            }
        }
        due("-9", x.like(0, 1, 9), -9);
        due("9", x.like(0, 1, 0), 9);
        due("-10", x.like(0, 1, -10), -100);
        due("10", x.like(0, 1, 10), -100);
        due("0", x.like(0, 1, 1), 0);
    }

    private static void allPairs() {
        LinkedVerse x = Check.told(Rooms.kinds(3));
        int[][] values = {{1, 2, -4}, {2, 9, -7}, {-4, -7, 5}};
        for (int pair = 0; pair < 9; pair++) {
            x.like(pair / 3, pair % 3, values[pair / 3][pair % 3]);
        }
        for (int a = 0; a < 8; a++) {
            for (int b = 0; b < 8; b++) {
                int sum = 0;
                for (int pair = 0; pair < 9; pair++) {
                    sum += (a >> pair / 3 & 1) * (b >> pair % 3 & 1) * values[pair / 3][pair % 3];
                }
                due("liking of " + a + " and " + b, x.liking(a, b), sum);
            }
        }
        LinkedVerse y = Check.told(Rooms.kinds(8));
        for (int pair = 0; pair < 64; pair++) {
            y.like(pair / 8, pair % 8, -9);
        }
        due("the least of all", y.liking(255, 255), -9 * 64);
        due("with the empty one", y.liking(255, 0), 0);
        due("of two empty ones", y.liking(0, 0), 0);
    }

    /** Whether two sets are linked, as a rule of places side by side. */
    private static boolean areLinked(int a, int b, int... values) {
        LinkedVerse x = Rooms.simple("");
        x.like(0, 1, values[0]);
        x.like(0, 2, values[1]);
        x.like(0, 0, values[2]);
        Rooms.tell(x, a);
        Rooms.tell(x, b);
        return x.verseOf(2, 7) == 1;
    }

    private static void kindTogether() {
        due("a, a", areLinked(1, 1, 0, 0, 0), true);
        due("a, ab", areLinked(1, 3, 0, 0, 0), true);
        due("a, b", areLinked(1, 2, 0, 0, 0), false);
        due("a, a that like each other not", areLinked(1, 1, -9, -9, -9), true);
        due("abc, abc", areLinked(7, 7, -9, -9, -9), true);
        due("two empty ones", areLinked(0, 0, 9, 9, 9), false);
        due("an empty one and all", areLinked(0, 7, 9, 9, 9), false);
    }

    private static void likingAboveZero() {
        due("0", areLinked(1, 2, 0, 0, 0), false);
        due("1", areLinked(1, 2, 1, 0, 0), true);
        due("-1", areLinked(1, 2, -1, 0, 0), false);
        due("a sum of 0", areLinked(1, 6, 5, -5, 0), false);
        due("a sum of 1", areLinked(1, 6, 5, -4, 0), true);
        due("a sum of -1", areLinked(6, 1, 4, -5, 0), false);
    }

    private static void years() {
        LinkedVerse x = Check.told("kind a;kind b;");
        x.entry(0, 0, 1);
        x.entry(0, 9999, 2);
        due("9999", x.year(9999), true);
        due("by 9999", x.word(0), 2);
        due("9999 again", x.year(9999), true);
        due("0", x.year(0), true);
        due("by 0", x.word(0), 1);
        due("9998", x.year(9998), true);
        due("by 9998", x.word(0), 1);
    }

    private static void noYears() {
        LinkedVerse x = Check.told("kind a;kind b;");
        x.entry(0, 0, 1);
        x.entry(0, 5, 2);
        x.entry(0, 6, 3);
        x.year(5);
        for (int year : new int[] {-2, -1, 10000, 10001, Integer.MIN_VALUE, Integer.MAX_VALUE}) {
            due("year " + year, x.year(year), false);
            due("the year stays", x.word(0), 2);
        }
    }

    private static void entries() {
        LinkedVerse x = Check.told("kind a;kind b;");
        due("the least", x.entry(0, 0, 1), 1);
        due("the greatest", x.entry(29, 9999, 3), 2);
        due("word -1", x.entry(-1, 0, 1), -1);
        due("word 30", x.entry(30, 0, 1), -1);
        due("year -1", x.entry(0, -1, 1), -1);
        due("year 10000", x.entry(0, 10000, 1), -1);
        x.year(9999);
        due("the least still", x.word(0), 1);
        due("the greatest by its year", x.word(29), 3);
    }

    private static void howManyEntries() {
        LinkedVerse x = Check.told("kind a;");
        due("none", x.count(8), 0);
        due("one", x.entry(0, 0, 1), 1);
        due("of another year", x.entry(0, 1, 1), 2);
        due("of another word", x.entry(1, 0, 1), 3);
        due("of one that is there", x.entry(0, 0, 0), 3);
        due("a refused one", x.entry(0, 2, 2), -1);
        due("count", x.count(8), 3);
    }

    private static void refused(String call, int word, int year, int set) {
        LinkedVerse x = Rooms.rich();
        String before = Rooms.seen(x);
        due(call, x.entry(word, year, set), -1);
        check.same("behind it", Rooms.seen(x), before);
        due("the next", x.entry(29, 0, 1), 8);
    }

    private static void noSuchEntries() {
        refused("word -1", -1, 50, 1);
        refused("word 30", 30, 50, 1);
        refused("year -1", 0, -1, 1);
        refused("year 10000", 0, 10000, 1);
        for (int far : Rooms.FAR) {
            refused("word " + far, far, 50, 1);
            refused("year " + far, 0, far, 1);
        }
    }

    private static void setsOfEntries() {
        for (int kinds = 0; kinds <= 8; kinds++) {
            LinkedVerse x = Check.told(Rooms.kinds(kinds));
            due("all of " + kinds, x.entry(0, 0, (1 << kinds) - 1), 1);
            due("none", x.entry(1, 0, 0), 2);
            due("one more alone", x.entry(2, 0, 1 << kinds), -1);
            due("one more beside", x.entry(2, 0, (2 << kinds) - 1), -1);
            due("-1", x.entry(2, 0, -1), -1);
            due("the highest bit", x.entry(2, 0, Integer.MIN_VALUE), -1);
            due("how many", x.count(8), 2);
        }
        refused("a fourth kind", 0, 50, 8);
        refused("a fourth beside", 0, 50, 9);
        refused("-1", 0, 50, -1);
    }

    private static void hundredEntries() {
        LinkedVerse x = Check.told("kind a;kind b;");
        for (int i = 0; i < 99; i++) {
            x.entry(i % 30, i / 30, 1);
        }
        due("a refused one at 99", x.entry(0, 9, 4), -1);
        due("the 100th", x.entry(29, 50, 2), 100);
        due("a 101st", x.entry(0, 50, 1), -1);
        due("a 101st again", x.entry(29, 49, 1), -1);
        due("how many", x.count(8), 100);
        x.year(50);
        due("the 100th stands", x.word(29), 2);
        x.year(49);
        due("the 101st does not", x.word(29), 1);
        Check.read(x, "kind a;");
        due("behind a text there is room", x.entry(0, 50, 1), 1);
    }

    private static void inPlace() {
        LinkedVerse x = Check.told("kind a;kind b;");
        due("one", x.entry(4, 7, 1), 1);
        due("in its place", x.entry(4, 7, 2), 1);
        x.year(7);
        due("it counts", x.word(4), 2);
        for (int i = 0; i < 99; i++) {
            x.entry(5, i, 1);
        }
        due("100", x.count(8), 100);
        due("in place of the first, at 100", x.entry(4, 7, 3), 100);
        due("in place of the last, at 100", x.entry(5, 98, 2), 100);
        due("the first", x.word(4), 3);
        x.year(98);
        due("the last", x.word(5), 2);
        due("of no such set, at 100", x.entry(4, 7, 4), -1);
        due("the first still", x.word(4), 3);
    }

    private static void anotherWord() {
        LinkedVerse x = Check.told("kind a;");
        x.entry(0, 0, 1);
        x.entry(29, 0, 1);
        due("0", x.word(0), 1);
        due("29", x.word(29), 1);
        due("30", x.word(30), -1);
        due("-1", x.word(-1), -1);
        due("-2", x.word(-2), -1);
        for (int far : Rooms.FAR) {
            due("" + far, x.word(far), -1);
        }
    }

    private static void whatItWas() {
        LinkedVerse x = Check.told("kind a;kind b;");
        due("at first", x.like(0, 1, -9), 0);
        due("then", x.like(0, 1, 9), -9);
        due("then", x.like(1, 0, 9), 9);
        due("the same", x.like(1, 0, 0), 9);
        due("at last", x.liking(1, 2), 0);
    }

    private static void refusedLike(String call, int a, int b, int value) {
        LinkedVerse x = Rooms.rich();
        String before = Rooms.seen(x);
        due(call, x.like(a, b, value), -100);
        check.same("behind it", Rooms.seen(x), before);
    }

    private static void noSuchKinds() {
        due("without kinds", new LinkedVerse().like(0, 0, 0), -100);
        LinkedVerse x = Check.told(Rooms.kinds(8));
        due("the last of eight", x.like(7, 7, 1), 0);
        due("a ninth", x.like(8, 7, 1), -100);
        due("a ninth behind", x.like(7, 8, 1), -100);
        refusedLike("a fourth", 3, 0, 5);
        refusedLike("a fourth behind", 0, 3, 5);
        refusedLike("-1", -1, 0, 5);
        refusedLike("-1 behind", 0, -1, 5);
        for (int far : Rooms.FAR) {
            refusedLike("" + far, far, 0, 5);
            refusedLike(far + " behind", 0, far, 5);
        }
    }

    private static void anotherValue() {
        refusedLike("10", 0, 1, 10);
        refusedLike("-10", 0, 1, -10);
        for (int far : Rooms.FAR) {
            refusedLike("" + far, 0, 1, far);
        }
        LinkedVerse x = Rooms.rich();
        due("9", x.like(0, 1, 9), 2);
        due("-9", x.like(0, 1, -9), 9);
        due("it stands", x.liking(1, 2), -9);
    }

    private static boolean isThrown(LinkedVerse x, int a, int b) {
        try {
            x.liking(a, b);
        } catch (NoSuchElementException e) {
            return true;
        }
        return false;
    }

    private static void likingThrows() {
        for (int kinds = 0; kinds <= 8; kinds++) {
            LinkedVerse x = Check.told(Rooms.kinds(kinds));
            int all = (1 << kinds) - 1;
            due("all of " + kinds, isThrown(x, all, all), false);
            due("none of " + kinds, isThrown(x, 0, 0), false);
            due("one more", isThrown(x, all + 1, 0), true);
            due("one more behind", isThrown(x, 0, all + 1), true);
            due("-1", isThrown(x, -1, 0), true);
            due("-1 behind", isThrown(x, all, -1), true);
            due("one more beside", isThrown(x, 2 * all + 1, 2 * all + 1), true);
            for (int far : Rooms.FAR) {
                due(far + "", isThrown(x, far, 0), true);
                due(far + " behind", isThrown(x, 0, far), true);
            }
        }
        LinkedVerse y = Rooms.rich();
        String before = Rooms.seen(y);
        due("in a rich room", isThrown(y, 8, NONE), true);
        check.same("behind it", Rooms.seen(y), before);
    }
}
