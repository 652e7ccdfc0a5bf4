/** Poets and turns, promises 4 to 6 and 24: each sentence that names an edge has a test of its own. */
public final class TurnEdgeTest {
    private static final int NONE = LinkedVerse.NONE;
    private static final Check check = new Check();

    public static void main(String[] args) {
        check.sentence("POETS 0 .., 12 at most", TurnEdgeTest::twelvePoets);
        check.sentence("each with a RANK (0 .. 99)", TurnEdgeTest::ranks);
        check.sentence("who has not PASSED since the latest VERSE was told", TurnEdgeTest::untilToldNext);
        check.sentence("or taken back", TurnEdgeTest::untilTakenBack);
        check.sentence("(of all, if all have; they have not any more then)", TurnEdgeTest::allHavePassed);
        check.sentence("of the one with the fewest VERSES on THE SHEET", TurnEdgeTest::fewestVerses);
        check.sentence("of several the least RANK", TurnEdgeTest::leastRank);
        check.sentence("then number", TurnEdgeTest::leastNumber);
        check.sentence("4: NONE: another RANK", TurnEdgeTest::anotherRank);
        check.sentence("4: or 12 are there", TurnEdgeTest::noThirteenth);
        check.sentence("5: NONE: there are no POETS", TurnEdgeTest::noPoets);
        check.sentence("5: or THE SHEET has LENGTH VERSES", TurnEdgeTest::fullSheet);
        check.sentence("6: Who has the TURN PASSES: who has it now", TurnEdgeTest::whoHasItNow);
        check.sentence("6: NONE as turn()", TurnEdgeTest::passNone);
        check.sentence("24: 0: RANK, 1: VERSES on THE SHEET", TurnEdgeTest::rankAndVerses);
        check.sentence("24: 2: 1 if it PASSED since the latest one, else 0", TurnEdgeTest::passedOrNot);
        check.sentence("24: NONE for others", TurnEdgeTest::noSuchPoet);
        check.end();
    }

    private static void due(String call, long got, long want) {
        check.same(call, got, want);
    }

    private static LinkedVerse poets(String text, int... ranks) {
        LinkedVerse x = Check.told(text);
        for (int rank : ranks) {
            x.poet(rank);
        }
        return x;
    }

    private static int tell(LinkedVerse x) {
        return x.verse(0, NONE, NONE, NONE);
    }

    private static int passed(LinkedVerse x) {
        int bits = 0;
        for (int poet = 0; poet < x.count(6); poet++) {
            bits |= x.poetOf(poet, 2) << poet;
        }
        return bits;
    }

    private static void twelvePoets() {
        LinkedVerse x = new LinkedVerse();
        for (int i = 0; i < 12; i++) {
            due("poet " + i, x.poet(50), i);
            due("how many", x.count(6), i + 1);
        }
        due("a 13th", x.poet(50), -1);
        due("how many", x.count(6), 12);
        due("the 12th", x.poetOf(11, 0), 50);
        for (int i = 0; i < 12; i++) {
            due("turn", x.turn(), i);
            tell(x);
        }
        due("round again", x.turn(), 0);
    }

    private static void ranks() {
        LinkedVerse x = new LinkedVerse();
        due("99", x.poet(99), 0);
        due("0", x.poet(0), 1);
        due("99 is kept", x.poetOf(0, 0), 99);
        due("0 is kept", x.poetOf(1, 0), 0);
        due("-1", x.poet(-1), -1);
        due("100", x.poet(100), -1);
    }

    private static void untilToldNext() {
        LinkedVerse x = poets("minutes 9;kind a;not 1-9 a;", 1, 2, 3);
        x.entry(0, 0, 1);
        x.pass();
        due("passed", passed(x), 1);
        due("a verse that breaks a rule is not told", x.verse(0, 0, NONE, NONE), -10);
        due("still passed", passed(x), 1);
        due("a verse without minutes is not told", x.verse(-1, NONE, NONE, NONE), -1);
        due("still passed", passed(x), 1);
        due("turn", x.turn(), 1);
        due("told", tell(x), 1);
        due("none has passed since", passed(x), 0);
        due("turn", x.turn(), 0);
    }

    private static void untilTakenBack() {
        LinkedVerse x = poets("", 1, 2, 3);
        x.pass();
        due("nothing is taken back", x.back(), -1);
        due("still passed", passed(x), 1);
        tell(x);
        x.pass();
        due("passed", passed(x), 1);
        due("taken back", x.back(), 1);
        due("none has passed since", passed(x), 0);
        due("turn", x.turn(), 0);
    }

    private static void allHavePassed() {
        LinkedVerse x = poets("", 3, 2, 1);
        due("first", x.pass(), 1);
        due("second", x.pass(), 0);
        due("all but one", passed(x), 6);
        due("the last: of all", x.pass(), 2);
        due("they have not any more", passed(x), 0);
        due("first again", x.pass(), 1);
        LinkedVerse y = poets("", 5);
        due("one alone", y.pass(), 0);
        due("has not any more", passed(y), 0);
        LinkedVerse z = poets("minutes 5;", 1, 2);
        z.pass();
        due("the last by a verse that took too long", z.verse(6, NONE, NONE, NONE), -3);
        due("they have not any more", passed(z), 0);
        due("turn of all", z.turn(), 0);
        LinkedVerse w = poets("minutes 5;", 1);
        due("one alone took too long", w.verse(6, NONE, NONE, NONE), -3);
        due("one alone has the turn", w.turn(), 0);
        due("a new poet comes first", w.poet(0), 1);
        due("turn", w.turn(), 1);
    }

    private static void fewestVerses() {
        LinkedVerse x = poets("", 9, 5);
        due("none has any", x.turn(), 1);
        tell(x);
        due("fewest, of greater rank", x.turn(), 0);
        tell(x);
        due("the same", x.turn(), 1);
        x.back();
        due("on the sheet, not taken back", x.turn(), 0);
        x.poet(99);
        due("0 of one and of a new one", x.turn(), 0);
        x.pass();
        due("of those that have not passed", x.turn(), 2);
        x.pass();
        due("with more verses, the last", x.turn(), 1);
    }

    private static void leastRank() {
        LinkedVerse x = poets("", 99, 98, 0, 1);
        due("0", x.turn(), 2);
        due("1", x.pass(), 3);
        due("98", x.pass(), 1);
        due("99", x.pass(), 0);
    }

    private static void leastNumber() {
        LinkedVerse x = poets("", 4, 4, 4);
        due("first", x.turn(), 0);
        due("second", x.pass(), 1);
        tell(x);
        due("first again", x.turn(), 0);
        tell(x);
        due("third", x.turn(), 2);
    }

    private static void anotherRank() {
        for (int rank : new int[] {-2, -1, 100, 101, 256, Integer.MIN_VALUE, Integer.MAX_VALUE}) {
            LinkedVerse x = Rooms.rich();
            String before = Rooms.seen(x);
            due("rank " + rank, x.poet(rank), -1);
            check.same("behind it", Rooms.seen(x), before);
            due("the next has the next number", x.poet(99), 3);
        }
    }

    private static void noThirteenth() {
        LinkedVerse x = new LinkedVerse();
        for (int i = 0; i < 11; i++) {
            x.poet(5);
        }
        due("another rank at eleven", x.poet(100), -1);
        due("the 12th", x.poet(5), 11);
        due("a 13th of least rank", x.poet(0), -1);
        due("it has no turn", x.turn(), 0);
        due("nor is it there", x.poetOf(12, 0), -1);
        due("how many", x.count(6), 12);
        Check.read(x, "length 3;");
        due("nor behind a text", x.poet(0), -1);
    }

    private static void noPoets() {
        LinkedVerse x = new LinkedVerse();
        due("none", x.turn(), -1);
        x.poet(-1);
        due("a refused one is none", x.turn(), -1);
        x.poet(5);
        due("one", x.turn(), 0);
    }

    private static void fullSheet() {
        for (int length : new int[] {1, 2, 47, 48}) {
            LinkedVerse x = poets("length " + length + ";", 5);
            for (int place = 1; place <= length; place++) {
                due("turn for " + place + " of " + length, x.turn(), 0);
                due("told", tell(x), place);
            }
            due("none of " + length, x.turn(), -1);
            x.worn(1, true);
            due("a worn one is there, too", x.turn(), -1);
            x.back();
            due("one taken back", x.turn(), 0);
        }
        LinkedVerse y = poets("length 2;", 5);
        tell(y);
        y.worn(1, true);
        due("worn, but not full", y.turn(), 0);
    }

    private static void whoHasItNow() {
        LinkedVerse x = poets("length 3;", 1, 2, 3);
        for (int i = 0; i < 7; i++) {
            int who = x.turn();
            int next = x.pass();
            due("who has it now", next, x.turn());
            due("another one", next == who ? 1 : 0, 0);
        }
        tell(x);
        x.worn(1, true);
        due("with a worn verse, too", x.pass(), 2);
    }

    private static void passNone() {
        due("no poets", new LinkedVerse().pass(), -1);
        LinkedVerse x = poets("length 1;", 1, 2);
        x.pass();
        tell(x);
        due("full", x.pass(), -1);
        due("none passed by that", passed(x), 0);
        x.back();
        due("not full", x.pass(), 1);
        due("passed", passed(x), 1);
    }

    private static void rankAndVerses() {
        LinkedVerse x = poets("", 99, 0);
        due("rank", x.poetOf(0, 0), 99);
        due("rank 0", x.poetOf(1, 0), 0);
        due("no verses", x.poetOf(1, 1), 0);
        tell(x);
        tell(x);
        tell(x);
        due("two", x.poetOf(1, 1), 2);
        due("one", x.poetOf(0, 1), 1);
        x.worn(1, true);
        due("a worn one is on the sheet", x.poetOf(1, 1), 2);
        x.back();
        due("one taken back", x.poetOf(1, 1), 1);
        LinkedVerse y = poets("length 48;", 3);
        for (int place = 1; place <= 48; place++) {
            tell(y);
        }
        due("all 48", y.poetOf(0, 1), 48);
    }

    private static void passedOrNot() {
        LinkedVerse x = poets("minutes 1;", 1, 2, 3);
        due("not", x.poetOf(0, 2), 0);
        x.pass();
        due("passed", x.poetOf(0, 2), 1);
        due("another one not", x.poetOf(1, 2), 0);
        x.verse(2, NONE, NONE, NONE);
        due("by a verse that took too long", x.poetOf(1, 2), 1);
        tell(x);
        due("since the latest one", passed(x), 0);
    }

    private static void noSuchPoet() {
        LinkedVerse x = poets("", 1, 2);
        for (int what = 0; what < 3; what++) {
            due("poet 2, " + what, x.poetOf(2, what), -1);
            due("poet -1, " + what, x.poetOf(-1, what), -1);
            due("poet 1 is", x.poetOf(1, what) == -1 ? 1 : 0, 0);
            for (int far : Rooms.FAR) {
                due("poet " + far, x.poetOf(far, what), -1);
            }
        }
        for (int far : Rooms.FAR) {
            due("what " + far, x.poetOf(0, far), -1);
        }
        due("what 3", x.poetOf(0, 3), -1);
        due("what -1", x.poetOf(0, -1), -1);
    }
}
