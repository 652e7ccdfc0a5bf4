/** Verses on the sheet, promises 12 to 15, 23 and 25: each sentence that names an edge has a test of its own. */
public final class VerseEdgeTest {
    private static final int NONE = LinkedVerse.NONE;
    private static final Check check = new Check();

    public static void main(String[] args) {
        check.sentence("A VERSE has up to three WORDS (NONE: none there)", VerseEdgeTest::upToThreeWords);
        check.sentence("its SET are all KINDS of these, by the YEAR in which it is told", VerseEdgeTest::setByYear);
        check.sentence("PLACES are numbered from 1 on", VerseEdgeTest::placesFromOne);
        check.sentence("THE SHEET has .. LENGTH at most", VerseEdgeTest::lengthAtMost);
        check.sentence("12: having taken so many minutes (0 .. 999)", VerseEdgeTest::minutes);
        check.sentence("12: NONE: there is no TURN", VerseEdgeTest::noTurn);
        check.sentence("12: no such WORDS", VerseEdgeTest::noSuchWords);
        check.sentence("12: NONE: .. minutes", VerseEdgeTest::noSuchMinutes);
        check.sentence("12: -9: a VERSE is WORN", VerseEdgeTest::wornRefuses);
        check.sentence("12: -3: it took more than MINUTES: the POET has PASSED", VerseEdgeTest::tookTooLong);
        check.sentence("12: -10 less the first RULE that it BREAKS (nothing happens then)", VerseEdgeTest::ruleRefuses);
        check.sentence("13: The first RULE that such a VERSE would BREAK; NONE: none", VerseEdgeTest::breaks);
        check.sentence("13: -2: THE SHEET has LENGTH VERSES, no such WORDS", VerseEdgeTest::breaksNoPlace);
        check.sentence("13: -9: one is WORN", VerseEdgeTest::breaksWorn);
        check.sentence("14: The latest VERSE is taken back: its PLACE", VerseEdgeTest::back);
        check.sentence("14: NONE: there is none", VerseEdgeTest::backNone);
        check.sentence("15: A VERSE of THE SHEET is WORN, or not any more", VerseEdgeTest::worn);
        check.sentence("15: whether that changed something", VerseEdgeTest::wornChanged);
        check.sentence("23: 0: its POET, 1: its SET, 2, 3, 4: its WORDS (NONE), 5: 1 if it is WORN, 6: minutes", VerseEdgeTest::verseOf);
        check.sentence("23: 7: 1 if it is LINKED to the one ahead, else 0", VerseEdgeTest::linkedAhead);
        check.sentence("23: 8: 1 if to the one two PLACES ahead", VerseEdgeTest::linkedTwoAhead);
        check.sentence("23: NONE for others", VerseEdgeTest::noSuchVerse);
        check.sentence("25: 0: its sort", VerseEdgeTest::sortOfRule);
        check.sentence("25: 1: the KINDS of its NAME (0 without)", VerseEdgeTest::kindsOfRule);
        check.sentence("25: 2, 3: its numbers, as they stand (0 without)", VerseEdgeTest::numbersOfRule);
        check.sentence("25: 4: how many VERSES of THE SHEET HAVE its NAME (WORN ones, too)", VerseEdgeTest::howManyHave);
        check.sentence("25: NONE for others", VerseEdgeTest::noSuchRule);
        check.end();
    }

    private static void due(String call, long got, long want) {
        check.same(call, got, want);
    }

    private static void due(String call, boolean got, boolean want) {
        check.same(call, got, want);
    }

    private static void upToThreeWords() {
        LinkedVerse x = Rooms.simple("");
        int[][] verses = {{NONE, NONE, NONE, 0}, {1, NONE, NONE, 1}, {NONE, 2, NONE, 2}, {NONE, NONE, 4, 4}, {1, 2, NONE, 3},
            {1, NONE, 4, 5}, {NONE, 2, 4, 6}, {1, 2, 4, 7}, {1, 1, 1, 1}, {0, 29, 0, 0}};
        for (int i = 0; i < verses.length; i++) {
            int[] v = verses[i];
            due("told", x.verse(0, v[0], v[1], v[2]), i + 1);
            due("its set", x.verseOf(i + 1, 1), v[3]);
            for (int word = 0; word < 3; word++) {
                due("its word", x.verseOf(i + 1, 2 + word), v[word]);
            }
        }
    }

    private static void setByYear() {
        LinkedVerse x = Check.told(Rooms.kinds(3) + "not 3-3 b;");
        x.poet(0);
        x.entry(0, 5, 1);
        x.entry(0, 6, 2);
        x.entry(1, 0, 4);
        Rooms.tell(x, 0);
        x.year(5);
        Rooms.tell(x, 0);
        x.year(6);
        due("by the year of now", Rooms.tell(x, 0), -10);
        x.year(5);
        due("told in 5", x.verse(0, 0, 1, NONE), 3);
        x.year(6);
        x.entry(0, 5, 7);
        x.entry(1, 0, 0);
        due("before any entry", x.verseOf(1, 1), 0);
        due("in 5", x.verseOf(2, 1), 1);
        due("all kinds, in 5", x.verseOf(3, 1), 5);
        due("in 6", Rooms.tell(x, 0), 4);
        due("its set", x.verseOf(4, 1), 2);
    }

    private static void placesFromOne() {
        LinkedVerse x = Rooms.simple("");
        due("no place 0", x.verseOf(0, 1), -1);
        due("the first", Rooms.tell(x, 7), 1);
        due("the second", Rooms.tell(x, 6), 2);
        due("on place 1", x.verseOf(1, 1), 7);
        due("on place 2", x.verseOf(2, 1), 6);
        due("no place 0 still", x.verseOf(0, 1), -1);
        due("no place 3", x.verseOf(3, 1), -1);
    }

    private static void lengthAtMost() {
        for (int length : new int[] {1, 2, 36, 47, 48}) {
            LinkedVerse x = Rooms.simple(length == 36 ? "" : "length " + length + ";");
            for (int place = 1; place <= length; place++) {
                due("place " + place + " of " + length, Rooms.tell(x, place % 8), place);
            }
            due("one more than " + length, Rooms.tell(x, 1), -1);
            due("verses", x.count(5), length);
            due("the last", x.verseOf(length, 1), length % 8);
            due("none behind", x.verseOf(length + 1, 1), -1);
            due("taken back", x.back(), length);
            due("told again", Rooms.tell(x, 7), length);
            due("the last", x.verseOf(length, 1), 7);
        }
    }

    private static void minutes() {
        LinkedVerse x = Check.told("");
        x.poet(0);
        due("0", x.verse(0, NONE, NONE, NONE), 1);
        due("99", x.verse(99, NONE, NONE, NONE), 2);
        due("kept", x.verseOf(1, 6), 0);
        due("kept", x.verseOf(2, 6), 99);
        due("100", x.verse(100, NONE, NONE, NONE), -3);
        due("999", x.verse(999, NONE, NONE, NONE), -3);
        due("1000", x.verse(1000, NONE, NONE, NONE), -1);
        due("-1", x.verse(-1, NONE, NONE, NONE), -1);
    }

    private static void noTurn() {
        LinkedVerse x = Check.told("length 2;minutes 5;");
        due("no poets", x.verse(0, NONE, NONE, NONE), -1);
        due("no poets, and too long", x.verse(6, NONE, NONE, NONE), -1);
        due("nothing is told", x.count(5), 0);
        x.poet(1);
        x.verse(0, NONE, NONE, NONE);
        x.verse(0, NONE, NONE, NONE);
        due("full", x.verse(0, NONE, NONE, NONE), -1);
        due("full, and too long", x.verse(6, NONE, NONE, NONE), -1);
        due("nobody has passed", x.poetOf(0, 2), 0);
        x.worn(1, true);
        due("full, and worn", x.verse(0, NONE, NONE, NONE), -1);
    }

    private interface Call {
        int answer(LinkedVerse x);
    }

    /** A call in the rich room that is refused, and leaves all as it was. */
    private static void refused(String name, int answer, Call call) {
        LinkedVerse x = Rooms.rich();
        String before = Rooms.seen(x);
        due(name, call.answer(x), answer);
        check.same("behind " + name, Rooms.seen(x), before);
    }

    private static void noSuchWords() {
        for (int word : new int[] {-2, -3, 30, 31, Integer.MIN_VALUE, Integer.MAX_VALUE}) {
            refused("first " + word, -1, x -> x.verse(0, word, NONE, NONE));
            refused("second " + word, -1, x -> x.verse(0, 1, word, NONE));
            refused("third " + word, -1, x -> x.verse(0, NONE, NONE, word));
            refused("too long, too, " + word, -1, x -> x.verse(21, word, NONE, NONE));
        }
        LinkedVerse x = Rooms.simple("");
        due("29", x.verse(0, 29, 29, 29), 1);
        due("0", x.verse(0, 0, 0, 0), 2);
        x.worn(1, true);
        due("30, and worn", x.verse(0, 30, NONE, NONE), -1);
    }

    private static void noSuchMinutes() {
        for (int minutes : new int[] {-2, -1, 1000, 1001, Integer.MIN_VALUE, Integer.MAX_VALUE}) {
            refused("minutes " + minutes, -1, x -> x.verse(minutes, 1, NONE, NONE));
        }
        LinkedVerse x = Rooms.simple("");
        Rooms.tell(x, 1);
        x.worn(1, true);
        due("1000, and worn", x.verse(1000, 1, NONE, NONE), -1);
    }

    private static LinkedVerse richAndWorn() {
        LinkedVerse x = Rooms.rich();
        x.worn(2, true);
        return x;
    }

    private static void wornRefuses() {
        LinkedVerse x = richAndWorn();
        String before = Rooms.seen(x);
        due("a good one", x.verse(0, 1, NONE, NONE), -9);
        check.same("behind it", Rooms.seen(x), before);
        LinkedVerse y = richAndWorn();
        due("one that took too long", y.verse(21, 1, NONE, NONE), -9);
        check.same("behind it", Rooms.seen(y), before);
        LinkedVerse z = richAndWorn();
        due("one that breaks a rule", z.verse(0, 5, NONE, NONE), -9);
        due("not worn any more", z.worn(2, false), true);
        due("it is told", z.verse(0, 1, NONE, NONE), 4);
        for (int place = 1; place <= 4; place++) {
            z.worn(place, true);
            due("worn on " + place, z.verse(0, 2, NONE, NONE), -9);
            z.worn(place, false);
        }
        z.worn(1, true);
        z.worn(4, true);
        z.worn(1, false);
        due("one of two is left", z.verse(0, 2, NONE, NONE), -9);
        due("it is taken back", z.back(), 4);
        due("none is left", z.verse(0, 1, NONE, NONE), 4);
    }

    private static void tookTooLong() {
        for (int most : new int[] {1, 2, 98, 99}) {
            LinkedVerse x = Check.told("minutes " + most + ";kind a;not 2-2 a;");
            x.poet(0);
            x.poet(1);
            x.entry(0, 0, 1);
            due("as many", x.verse(most, 0, NONE, NONE), 1);
            due("one more", x.verse(most + 1, NONE, NONE, NONE), -3);
            due("the poet has passed", x.poetOf(1, 2), 1);
            due("nothing is told", x.count(5), 1);
            due("the next one's turn", x.turn(), 0);
            due("one that breaks a rule, too", x.verse(999, 0, NONE, NONE), -3);
            due("all have passed, none any more", x.poetOf(0, 2) + x.poetOf(1, 2), 0);
            due("a rule alone", x.verse(most, 0, NONE, NONE), -10);
        }
    }

    private static void ruleRefuses() {
        refused("again", -13, x -> x.verse(20, 5, NONE, NONE));
        refused("link", -12, x -> x.verse(0, 20, NONE, NONE));
        LinkedVerse x = Rooms.rich();
        due("a good one behind", x.verse(0, 1, NONE, NONE), 4);
        String before = Rooms.seen(x);
        due("the first rule", x.verse(0, 2, NONE, NONE), -10);
        due("run, too long", x.verse(0, 0, NONE, NONE), -11);
        check.same("behind both", Rooms.seen(x), before);
        LinkedVerse y = Rooms.simple("most c 1;".repeat(11) + "not 1-1 a;");
        due("the twelfth rule", Rooms.tell(y, 1), -21);
        due("told behind it", Rooms.tell(y, 4), 1);
        due("the first of eleven", Rooms.tell(y, 4), -10);
    }

    private static void breaks() {
        refused("none", -1, x -> x.breaks(1, NONE, NONE));
        refused("the third", 2, x -> x.breaks(20, NONE, NONE));
        refused("the fourth", 3, x -> x.breaks(NONE, NONE, 5));
        LinkedVerse x = new LinkedVerse();
        due("without rules and poets", x.breaks(0, 29, NONE), -1);
        LinkedVerse y = Check.told("kind a;not 1-1 a;");
        y.entry(0, 0, 1);
        due("without poets", y.breaks(0, NONE, NONE), 0);
        y.year(1);
        y.entry(0, 1, 0);
        due("by the year of now", y.breaks(0, NONE, NONE), -1);
    }

    private static void breaksNoPlace() {
        for (int word : new int[] {-2, 30, Integer.MIN_VALUE, Integer.MAX_VALUE}) {
            refused("first " + word, -2, x -> x.breaks(word, NONE, NONE));
            refused("second " + word, -2, x -> x.breaks(NONE, word, NONE));
            refused("third " + word, -2, x -> x.breaks(NONE, NONE, word));
        }
        LinkedVerse x = Rooms.simple("length 2;");
        Rooms.tell(x, 1);
        due("one place left", x.breaks(29, 0, NONE), -1);
        Rooms.tell(x, 1);
        due("full", x.breaks(1, NONE, NONE), -2);
        x.worn(2, true);
        due("full, and worn", x.breaks(1, NONE, NONE), -2);
        x.back();
        due("not full", x.breaks(1, NONE, NONE), -1);
        x.worn(1, true);
        due("no such word, and worn", x.breaks(30, NONE, NONE), -2);
    }

    private static void breaksWorn() {
        LinkedVerse x = richAndWorn();
        String before = Rooms.seen(x);
        due("a good one", x.breaks(1, NONE, NONE), -9);
        due("one that breaks a rule", x.breaks(5, NONE, NONE), -9);
        check.same("behind both", Rooms.seen(x), before);
        x.worn(2, false);
        due("not any more", x.breaks(1, NONE, NONE), -1);
    }

    private static void back() {
        LinkedVerse x = Rooms.simple("length 48;most a 48;run b 1-1;gap c 9;least a 1;again 9;");
        String empty = Rooms.seen(x);
        Rooms.tell(x, 1);
        due("the first", x.back(), 1);
        check.same("as before", Rooms.seen(x), empty);
        due("told anew", Rooms.tell(x, 6), 1);
        due("with a run of b", Rooms.tell(x, 2), -11);
        due("taken back", x.back(), 1);
        due("no run of b", Rooms.breaks(x, 2), -1);
        due("no word", Rooms.breaks(x, 6), -1);
        LinkedVerse y = Rooms.simple("length 48;");
        for (int place = 1; place <= 48; place++) {
            Rooms.tell(y, place % 8);
        }
        for (int place = 48; place >= 1; place--) {
            due("from the last on", y.back(), place);
            due("verses", y.count(5), place - 1);
        }
        due("none", y.back(), -1);
    }

    private static void backNone() {
        LinkedVerse x = Rooms.rich();
        due("third", x.back(), 3);
        due("second", x.back(), 2);
        due("first", x.back(), 1);
        String before = Rooms.seen(x);
        due("none", x.back(), -1);
        check.same("behind it", Rooms.seen(x), before);
        due("verses of poets", x.poetOf(0, 1) + x.poetOf(1, 1) + x.poetOf(2, 1), 0);
        due("a new object", new LinkedVerse().back(), -1);
    }

    private static void worn() {
        LinkedVerse x = Rooms.simple("length 48;");
        for (int place = 1; place <= 48; place++) {
            Rooms.tell(x, 1);
        }
        due("the first", x.worn(1, true), true);
        due("the last", x.worn(48, true), true);
        due("0", x.worn(0, true), false);
        due("49", x.worn(49, true), false);
        due("worn ones", x.count(11), 2);
        due("of the first", x.verseOf(1, 5), 1);
        due("of the second", x.verseOf(2, 5), 0);
        due("of the last", x.verseOf(48, 5), 1);
        due("not any more", x.worn(1, false), true);
        due("of the first", x.verseOf(1, 5), 0);
        due("taken back", x.back(), 48);
        due("worn ones", x.count(11), 0);
        due("told anew", Rooms.tell(x, 1), 48);
        due("is not worn", x.verseOf(48, 5), 0);
    }

    private static void wornChanged() {
        due("an empty sheet", new LinkedVerse().worn(1, true), false);
        for (int place : new int[] {-1, 0, 4, 5, 48, 49, Integer.MIN_VALUE, Integer.MAX_VALUE}) {
            refused("worn on " + place, 0, x -> x.worn(place, true) ? 1 : 0);
            refused("not on " + place, 0, x -> x.worn(place, false) ? 1 : 0);
        }
        refused("not worn already", 0, x -> x.worn(3, false) ? 1 : 0);
        LinkedVerse x = Rooms.rich();
        due("worn", x.worn(3, true), true);
        String before = Rooms.seen(x);
        due("worn already", x.worn(3, true), false);
        check.same("behind it", Rooms.seen(x), before);
        due("not any more", x.worn(3, false), true);
        due("not any more already", x.worn(3, false), false);
        due("worn ones", x.count(11), 0);
    }

    private static void verseOf() {
        LinkedVerse x = Rooms.rich();
        int[][] due = {{1, 1, 0, -1, -1, 0, 5, 0, 0}, {2, 3, 3, -1, 29, 0, 20, 1, 0}, {0, 5, 5, -1, -1, 0, 0, 1, 1}};
        for (int place = 1; place <= 3; place++) {
            for (int what = 0; what <= 8; what++) {
                due(place + ", " + what, x.verseOf(place, what), due[place - 1][what]);
            }
        }
        x.worn(2, true);
        due("worn", x.verseOf(2, 5), 1);
        due("its set still", x.verseOf(2, 1), 3);
        due("its words still", x.verseOf(2, 4), 29);
    }

    private static void linkedAhead() {
        LinkedVerse x = Rooms.simple("");
        Rooms.tell(x, 1);
        Rooms.tell(x, 2);
        Rooms.tell(x, 6);
        due("the first has none ahead", x.verseOf(1, 7), 0);
        due("not linked", x.verseOf(2, 7), 0);
        due("linked", x.verseOf(3, 7), 1);
        x.like(0, 1, 1);
        due("by liking", x.verseOf(2, 7), 1);
        due("the first still", x.verseOf(1, 7), 0);
    }

    private static void linkedTwoAhead() {
        LinkedVerse x = Rooms.simple("");
        Rooms.tell(x, 1);
        Rooms.tell(x, 1);
        Rooms.tell(x, 2);
        Rooms.tell(x, 3);
        due("the first has none", x.verseOf(1, 8), 0);
        due("the second has none", x.verseOf(2, 8), 0);
        due("not linked", x.verseOf(3, 8), 0);
        due("linked", x.verseOf(4, 8), 1);
        x.like(0, 1, 1);
        due("by liking", x.verseOf(3, 8), 1);
    }

    private static void noSuchVerse() {
        LinkedVerse x = Rooms.rich();
        for (int what = 0; what <= 8; what++) {
            due("place 0", x.verseOf(0, what), -1);
            due("place 4", x.verseOf(4, what), -1);
            due("place -1", x.verseOf(-1, what), -1);
            for (int far : Rooms.FAR) {
                due("place " + far, x.verseOf(far, what), -1);
            }
        }
        for (int place = 1; place <= 3; place++) {
            due("what -1", x.verseOf(place, -1), -1);
            due("what 9", x.verseOf(place, 9), -1);
            for (int far : Rooms.FAR) {
                due("what " + far, x.verseOf(place, far), -1);
            }
        }
        due("an empty sheet", new LinkedVerse().verseOf(1, 0), -1);
        LinkedVerse y = Rooms.simple("");
        Rooms.tell(y, 1);
        y.back();
        due("one taken back", y.verseOf(1, 1), -1);
    }

    private static LinkedVerse allRules() {
        return Rooms.simple("group g=a,c;at 1-48 g;not 48-48 b;run g 1-9;gap c 9;most g 48;most b 0;least a 1;least g 48;"
            + "again 9;link;shift;length 48;");
    }

    private static void sortOfRule() {
        LinkedVerse x = allRules();
        int[] due = {0, 1, 2, 3, 4, 4, 5, 5, 6, 7, 8};
        for (int rule = 0; rule < due.length; rule++) {
            due("rule " + rule, x.ruleOf(rule, 0), due[rule]);
        }
    }

    private static void kindsOfRule() {
        LinkedVerse x = allRules();
        int[] due = {5, 2, 5, 4, 5, 2, 1, 5, 0, 0, 0};
        for (int rule = 0; rule < due.length; rule++) {
            due("rule " + rule, x.ruleOf(rule, 1), due[rule]);
        }
    }

    private static void numbersOfRule() {
        LinkedVerse x = allRules();
        int[][] due = {{1, 48}, {48, 48}, {1, 9}, {9, 0}, {48, 0}, {0, 0}, {1, 0}, {48, 0}, {9, 0}, {0, 0}, {0, 0}};
        for (int rule = 0; rule < due.length; rule++) {
            due("rule " + rule + " first", x.ruleOf(rule, 2), due[rule][0]);
            due("rule " + rule + " second", x.ruleOf(rule, 3), due[rule][1]);
        }
        due("as numbers", Check.told("again 007;").ruleOf(0, 2), 7);
    }

    private static void howManyHave() {
        LinkedVerse x = Rooms.simple("group g=a,c;most g 48;most b 48;link;again 1;");
        x.like(0, 1, 9);
        for (int what = 0; what < 4; what++) {
            due("none yet, rule " + what, x.ruleOf(what, 4), 0);
        }
        Rooms.tell(x, 1);
        Rooms.tell(x, 2);
        Rooms.tell(x, 7);
        int[] due = {2, 2, 0, 0};
        for (int rule = 0; rule < 4; rule++) {
            due("rule " + rule, x.ruleOf(rule, 4), due[rule]);
        }
        x.worn(1, true);
        x.worn(3, true);
        due("worn ones, too", x.ruleOf(0, 4), 2);
        x.back();
        due("not one taken back", x.ruleOf(0, 4), 1);
        LinkedVerse y = Rooms.simple("length 48;most a 48;");
        for (int place = 1; place <= 48; place++) {
            Rooms.tell(y, 1);
        }
        due("all 48", y.ruleOf(0, 4), 48);
    }

    private static void noSuchRule() {
        due("no rules", new LinkedVerse().ruleOf(0, 0), -1);
        LinkedVerse x = Check.told("link;".repeat(12));
        for (int what = 0; what <= 4; what++) {
            due("rule 11", x.ruleOf(11, what), what == 0 ? 7 : 0);
            due("rule 12", x.ruleOf(12, what), -1);
            due("rule -1", x.ruleOf(-1, what), -1);
            for (int far : Rooms.FAR) {
                due("rule " + far, x.ruleOf(far, what), -1);
            }
        }
        due("what -1", x.ruleOf(0, -1), -1);
        due("what 5", x.ruleOf(0, 5), -1);
        for (int far : Rooms.FAR) {
            due("what " + far, x.ruleOf(0, far), -1);
        }
        LinkedVerse y = Check.told("link;shift;");
        due("rule 1", y.ruleOf(1, 0), 8);
        due("rule 2", y.ruleOf(2, 0), -1);
    }
}
