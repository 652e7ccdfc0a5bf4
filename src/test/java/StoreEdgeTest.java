/** The store, promises 20 to 22: each sentence that names an edge has a test of its own. */
public final class StoreEdgeTest {
    private static final int NONE = LinkedVerse.NONE;
    private static final Check check = new Check();

    public static void main(String[] args) {
        check.sentence("THE STORE has VERSES to be told, 20 at most, from 0 on", StoreEdgeTest::twentyVerses);
        check.sentence("VERSES to be told (up to three WORDS, NONE: none there)", StoreEdgeTest::upToThreeWords);
        check.sentence("A TRY of m: m unlike ones of these", StoreEdgeTest::unlikeOnes);
        check.sentence("one behind the other behind THE SHEET", StoreEdgeTest::behindTheSheet);
        check.sentence("each GOOD (with again) on its PLACE", StoreEdgeTest::eachIsGood);
        check.sentence("its worth is the sum of LIKINGS of each with the one ahead", StoreEdgeTest::worthIsSum);
        check.sentence("(0 of the first without one)", StoreEdgeTest::firstWithoutOne);
        check.sentence("20: A VERSE comes to the STORE: its number", StoreEdgeTest::numbers);
        check.sentence("20: NONE: no such WORDS", StoreEdgeTest::noSuchWords);
        check.sentence("20: or 20 are there", StoreEdgeTest::noRoom);
        check.sentence("21: The greatest worth of a TRY of m (1 .. 3)", StoreEdgeTest::greatestWorth);
        check.sentence("21: -100: there is none", StoreEdgeTest::noTry);
        check.sentence("21: -102: another m", StoreEdgeTest::anotherM);
        check.sentence("21: -109: a VERSE is WORN", StoreEdgeTest::wornTry);
        check.sentence("22: The i-th one (from 0 on) of the TRY of greatest worth", StoreEdgeTest::ithOne);
        check.sentence("22: of several the first by numbers", StoreEdgeTest::firstByNumbers);
        check.sentence("22: of the latest best()", StoreEdgeTest::ofTheLatest);
        check.sentence("22: NONE: it told none", StoreEdgeTest::toldNone);
        check.sentence("22: no such i", StoreEdgeTest::noSuchOne);
        check.end();
    }

    private static void due(String call, long got, long want) {
        check.same(call, got, want);
    }

    /** Kinds a, b, c, a poet, words 0 .. 7 of the sets 0 .. 7, and stored verses of one word each. */
    private static LinkedVerse stored(String text, int... words) {
        LinkedVerse x = Rooms.simple(text);
        for (int word : words) {
            x.store(word, NONE, NONE);
        }
        return x;
    }

    private static void best(LinkedVerse x, String call, int m, int worth, int... picks) {
        due(call + ", best(" + m + ")", x.best(m), worth);
        for (int i = 0; i < 3; i++) {
            due(call + ", bestOf(" + i + ")", x.bestOf(i), i < picks.length ? picks[i] : -1);
        }
    }

    private static void twentyVerses() {
        LinkedVerse x = Rooms.simple("");
        due("none", x.count(9), 0);
        for (int i = 0; i < 20; i++) {
            due("number", x.store(i == 19 ? 1 : 2, NONE, NONE), i);
            due("how many", x.count(9), i + 1);
        }
        due("a 21st", x.store(1, NONE, NONE), -1);
        due("how many", x.count(9), 20);
        x.like(0, 1, 9);
        Rooms.tell(x, 2);
        best(x, "the last of twenty", 1, 9, 19);
        best(x, "the first behind it", 2, 18, 19, 0);
        best(x, "three of twenty", 3, 18, 0, 19, 1);
    }

    private static void upToThreeWords() {
        LinkedVerse x = Rooms.simple("again 1;");
        x.like(0, 0, 1);
        x.like(1, 1, 2);
        x.like(2, 2, 4);
        int[][] verses = {{NONE, NONE, NONE}, {1, NONE, NONE}, {NONE, 2, NONE}, {NONE, NONE, 4}};
        for (int[] v : verses) {
            x.store(v[0], v[1], v[2]);
        }
        Rooms.tell(x, 7);
        best(x, "the third word", 1, 4, 3);
        int[] words = {4, 2, 1};
        int[][] picks = {{2, 2}, {3, 4}, {3, 4}};
        for (int i = 0; i < 3; i++) {
            x.back();
            x.verse(0, 7, words[i], NONE);
            best(x, "not the word " + words[i] + " again", 1, picks[i][1], picks[i][0]);
        }
        x.back();
        x.verse(0, 7, 4, 2);
        best(x, "the first word", 1, 1, 1);
        x.back();
        x.verse(0, 1, 4, 2);
        best(x, "none of these, but the one without words", 1, 0, 0);
    }

    private static void unlikeOnes() {
        LinkedVerse x = stored("", 1);
        best(x, "one of one", 1, 0, 0);
        best(x, "two of one", 2, -100);
        best(x, "three of one", 3, -100);
        x.store(1, NONE, NONE);
        best(x, "two of two", 2, 0, 0, 1);
        best(x, "three of two", 3, -100);
        x.store(1, NONE, NONE);
        best(x, "three of three", 3, 0, 0, 1, 2);
        LinkedVerse y = stored("", 2, 1, 2);
        y.like(0, 0, 9);
        y.like(0, 1, 1);
        best(y, "one is not taken twice", 3, 2, 0, 1, 2);
    }

    private static void behindTheSheet() {
        LinkedVerse x = stored("length 4;at 4-4 b;", 1, 2, 4);
        best(x, "from place 1 on", 3, 0, 0, 1, 2);
        Rooms.tell(x, 0);
        best(x, "from place 2 on", 3, 0, 0, 2, 1);
        Rooms.tell(x, 0);
        best(x, "from place 3 on", 2, 0, 0, 1);
        best(x, "no room for three", 3, -100);
        Rooms.tell(x, 0);
        best(x, "on place 4", 1, 0, 1);
        best(x, "no room for two", 2, -100);
        Rooms.tell(x, 2);
        best(x, "no room for one", 1, -100);
        x.back();
        best(x, "room for one", 1, 0, 1);
        LinkedVerse y = stored("length 48;", 1, 2, 4);
        for (int place = 1; place <= 45; place++) {
            Rooms.tell(y, 0);
        }
        best(y, "the last three of 48", 3, 0, 0, 1, 2);
        Rooms.tell(y, 0);
        best(y, "no three behind 46", 3, -100);
        LinkedVerse z = stored("length 1;", 1, 2);
        best(z, "one place", 1, 0, 0);
        best(z, "one place for two", 2, -100);
    }

    private static void eachIsGood() {
        best(stored("not 1-1 a;", 1, 2), "not", 2, 0, 1, 0);
        best(stored("at 1-3 a;", 1, 2, 3), "at", 2, 0, 0, 2);
        best(stored("run a 2-2;", 1, 2, 3), "run", 3, 0, 0, 2, 1);
        best(stored("gap a 3;run a 1-1;", 1, 2, 3), "gap", 3, -100);
        best(stored("most a 1;", 1, 3, 2), "most", 2, 0, 0, 2);
        best(stored("length 3;least a 2;", 2, 1, 3), "least", 3, 0, 0, 1, 2);
        best(stored("length 3;least a 3;", 2, 1, 3), "least 3", 3, -100);
        best(stored("link;", 1, 2, 3), "link", 2, 0, 0, 2);
        best(stored("shift;", 1, 2, 3), "shift", 3, 0, 0, 2, 1);
        LinkedVerse x = stored("again 1;", 1, 1, 2);
        best(x, "again among them", 2, 0, 0, 2);
        best(x, "again two ahead", 3, 0, 0, 2, 1);
        Rooms.tell(x, 1);
        best(x, "again with the sheet", 1, 0, 2);
        LinkedVerse y = stored("again 2;", 1, 1, 2);
        best(y, "again within two", 3, -100);
        LinkedVerse z = stored("length 2;run a 2-2;", 1, 2, 3);
        best(z, "the end of a run at length", 2, 0, 0, 2);
        Rooms.tell(z, 2);
        best(z, "no run of one at length", 1, 0, 1);
    }

    private static void worthIsSum() {
        LinkedVerse x = stored("", 3, 5, 6);
        x.like(0, 0, 1);
        x.like(0, 1, 2);
        x.like(0, 2, 4);
        x.like(1, 1, -3);
        x.like(1, 2, 5);
        x.like(2, 2, 9);
        due("liking of 3 and 5", x.liking(3, 5), 1 + 4 + 2 + 5);
        due("liking of 5 and 6", x.liking(5, 6), 2 + 4 + 5 + 9);
        due("liking of 3 and 6", x.liking(3, 6), 2 + 4 - 3 + 5);
        best(x, "two", 2, 20, 1, 2);
        best(x, "three", 3, 32, 0, 1, 2);
        Rooms.tell(x, 4);
        due("liking of 4 and 6", x.liking(4, 6), 14);
        best(x, "one behind the sheet", 1, 14, 2);
        best(x, "three behind the sheet", 3, 46, 2, 1, 0);
        Rooms.tell(x, 0);
        best(x, "one behind an empty set", 1, 0, 0);
    }

    private static void firstWithoutOne() {
        LinkedVerse x = stored("", 1);
        x.like(0, 0, 9);
        best(x, "one on an empty sheet", 1, 0, 0);
        x.like(0, 0, -9);
        best(x, "one on an empty sheet", 1, 0, 0);
        x.store(1, NONE, NONE);
        best(x, "two on an empty sheet", 2, -9, 0, 1);
        Rooms.tell(x, 1);
        best(x, "one behind one", 1, -9, 0);
        x.back();
        best(x, "the sheet is empty again", 1, 0, 0);
    }

    private static void numbers() {
        LinkedVerse x = Rooms.simple("not 1-1 a;minutes 1;");
        due("the first, that breaks a rule", x.store(1, NONE, NONE), 0);
        due("without words", x.store(NONE, NONE, NONE), 1);
        due("the greatest words", x.store(29, 29, 29), 2);
        due("three", x.store(0, 1, 2), 3);
        due("nothing is told", x.count(5), 0);
        due("by anyone", new LinkedVerse().store(0, NONE, NONE), 0);
        LinkedVerse y = Rooms.simple("length 1;");
        Rooms.tell(y, 1);
        y.worn(1, true);
        due("with a full sheet, worn", y.store(1, NONE, NONE), 0);
    }

    private static void noSuchWords() {
        for (int word : new int[] {-2, -3, 30, 31, Integer.MIN_VALUE, Integer.MAX_VALUE}) {
            LinkedVerse x = Rooms.rich();
            String before = Rooms.seen(x);
            due("first " + word, x.store(word, 1, 1), -1);
            due("second " + word, x.store(NONE, word, 1), -1);
            due("third " + word, x.store(1, NONE, word), -1);
            check.same("behind them", Rooms.seen(x), before);
            due("the next", x.store(29, 0, NONE), 3);
        }
    }

    private static void noRoom() {
        LinkedVerse x = Rooms.simple("");
        for (int i = 0; i < 19; i++) {
            x.store(NONE, NONE, NONE);
        }
        due("no such words at nineteen", x.store(30, NONE, NONE), -1);
        due("the 20th", x.store(1, NONE, NONE), 19);
        due("a 21st", x.store(2, NONE, NONE), -1);
        due("a 22nd", x.store(NONE, NONE, NONE), -1);
        due("how many", x.count(9), 20);
        x.like(0, 0, 2);
        x.like(0, 1, 9);
        Rooms.tell(x, 1);
        best(x, "the 20th stands, the 21st does not", 1, 2, 19);
        Check.read(x, "kind a;");
        due("behind a text there is room", x.store(2, NONE, NONE), 0);
    }

    private static void greatestWorth() {
        LinkedVerse x = stored("", 1, 2, 4);
        x.like(0, 0, -9);
        x.like(0, 1, -8);
        x.like(0, 2, -7);
        x.like(1, 2, -6);
        Rooms.tell(x, 1);
        best(x, "one", 1, -7, 2);
        best(x, "two", 2, -13, 2, 1);
        best(x, "three", 3, -21, 1, 2, 0);
        x.like(0, 2, -9);
        best(x, "one with a value more", 1, -8, 1);
        x.entry(2, 0, 0);
        best(x, "by the book of now", 1, 0, 1);
        LinkedVerse y = Check.told(Rooms.kinds(8));
        y.poet(0);
        y.entry(0, 0, 255);
        for (int pair = 0; pair < 64; pair++) {
            y.like(pair / 8, pair % 8, 9);
        }
        y.verse(0, 0, NONE, NONE);
        for (int i = 0; i < 3; i++) {
            y.store(0, NONE, NONE);
        }
        best(y, "the greatest of all", 3, 3 * 64 * 9, 0, 1, 2);
        for (int pair = 0; pair < 64; pair++) {
            y.like(pair / 8, pair % 8, -9);
        }
        best(y, "the least of all", 3, -3 * 64 * 9, 0, 1, 2);
    }

    private static void noTry() {
        best(new LinkedVerse(), "an empty store", 1, -100);
        best(stored("not 1-1 a;", 1), "none is good", 1, -100);
        best(stored("length 1;", 1, 2), "no room", 2, -100);
        best(stored("", 1, 2), "too few", 3, -100);
        LinkedVerse x = stored("not 2-2 a;not 2-2 b;", 1, 2);
        best(x, "one", 1, 0, 0);
        best(x, "none is good on the second", 2, -100);
        String before = Rooms.seen(x);
        due("again", x.best(2), -100);
        check.same("changes nothing", Rooms.seen(x), before);
    }

    private static void anotherM() {
        for (int m : new int[] {-1, 0, 4, 5, Integer.MIN_VALUE, Integer.MAX_VALUE}) {
            LinkedVerse x = stored("", 1, 2, 4, 5);
            best(x, "a try", 3, 0, 0, 1, 2);
            best(x, "another m " + m, m, -102);
            x.best(1);
            Rooms.tell(x, 1);
            x.worn(1, true);
            best(x, "another m, and worn, " + m, m, -102);
            due("verses", x.count(5), 1);
        }
        LinkedVerse y = new LinkedVerse();
        best(y, "0 of an empty store", 0, -102);
        best(y, "4 of an empty store", 4, -102);
    }

    private static void wornTry() {
        LinkedVerse x = stored("length 2;", 1, 2, 4);
        Rooms.tell(x, 1);
        best(x, "not worn", 1, 0, 0);
        x.worn(1, true);
        best(x, "worn", 1, -109);
        best(x, "worn, and there is none", 2, -109);
        x.worn(1, false);
        best(x, "not any more", 1, 0, 0);
        x.worn(1, true);
        x.back();
        best(x, "it is taken back", 2, 0, 0, 1);
    }

    private static void ithOne() {
        LinkedVerse x = stored("", 0, 1, 2, 4);
        x.like(0, 1, 3);
        x.like(0, 2, 4);
        best(x, "three", 3, 7, 2, 1, 3);
        best(x, "two", 2, 4, 1, 3);
        best(x, "one", 1, 0, 0);
    }

    private static void firstByNumbers() {
        LinkedVerse x = stored("", 1, 2, 1, 2);
        best(x, "all are worth 0", 3, 0, 0, 1, 2);
        x.like(0, 1, 1);
        best(x, "two of several", 2, 1, 0, 1);
        best(x, "three of several", 3, 2, 0, 1, 2);
        Rooms.tell(x, 2);
        best(x, "one of two", 1, 1, 0);
        Rooms.tell(x, 1);
        best(x, "one of two others", 1, 1, 1);
        best(x, "two of several", 2, 2, 1, 0);
        LinkedVerse y = stored("", 4, 1, 2, 2);
        y.like(0, 1, 1);
        best(y, "the first behind the same first", 2, 1, 1, 2);
        best(y, "the first of the last", 3, 2, 2, 1, 3);
    }

    private static void ofTheLatest() {
        LinkedVerse x = stored("", 1, 2);
        best(x, "two", 2, 0, 0, 1);
        x.like(0, 0, 9);
        Rooms.tell(x, 1);
        x.store(4, NONE, NONE);
        x.worn(1, true);
        due("still the first", x.bestOf(0), 0);
        due("still the second", x.bestOf(1), 1);
        due("a fault", Check.read(x, "!"), 1);
        due("still", x.bestOf(1), 1);
        x.worn(1, false);
        best(x, "one", 1, 9, 0);
        due("a text", Check.read(x, "kind a;"), 0);
        due("begins anew", x.bestOf(0), -1);
    }

    private static void toldNone() {
        due("a new object", new LinkedVerse().bestOf(0), -1);
        LinkedVerse x = stored("length 2;", 1, 2);
        due("before any", x.bestOf(0), -1);
        int[] others = {0, 4, 3};
        for (int m : others) {
            best(x, "a try", 2, 0, 0, 1);
            best(x, "none by " + m, m, m == 3 ? -100 : -102);
        }
        best(x, "a try", 2, 0, 0, 1);
        Rooms.tell(x, 1);
        x.worn(1, true);
        best(x, "none by a worn one", 1, -109);
    }

    private static void noSuchOne() {
        LinkedVerse x = stored("", 1, 2, 4);
        for (int m = 1; m <= 3; m++) {
            x.best(m);
            due("the last", x.bestOf(m - 1), m - 1);
            due("one more", x.bestOf(m), -1);
            due("-1", x.bestOf(-1), -1);
            for (int far : Rooms.FAR) {
                due("" + far, x.bestOf(far), -1);
            }
        }
        due("3", x.bestOf(3), -1);
        due("4", x.bestOf(4), -1);
    }
}
