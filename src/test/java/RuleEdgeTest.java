/** What a verse breaks, for each rule: each sentence that names an edge has a test of its own. */
public final class RuleEdgeTest {
    private static final Check check = new Check();

    public static void main(String[] args) {
        check.sentence("A SET HAS a NAME if it has one of its KINDS", RuleEdgeTest::hasName);
        check.sentence("A RUN of a NAME: VERSES on PLACES side by side that HAVE it, as many as there are", RuleEdgeTest::wholeRun);
        check.sentence("at a - b NAME: p is one of a .. b, and it has not the NAME", RuleEdgeTest::at);
        check.sentence("not: likewise, and it HAS it", RuleEdgeTest::not);
        check.sentence("run NAME a - b: a RUN is longer than b by it", RuleEdgeTest::runTooLong);
        check.sentence("or ends ahead of it with fewer than a", RuleEdgeTest::runTooShort);
        check.sentence("or p is LENGTH, and its own RUN has fewer than a", RuleEdgeTest::runAtLength);
        check.sentence("gap NAME n: a RUN begins with it, and one ended ahead of it with fewer than n VERSES between", RuleEdgeTest::gap);
        check.sentence("most NAME n: by it more than n HAVE it", RuleEdgeTest::most);
        check.sentence("least NAME n: even if all behind it HAVE it there would be fewer than n", RuleEdgeTest::least);
        check.sentence("again n: one of its WORDS is one of a VERSE on one of the n PLACES ahead", RuleEdgeTest::again);
        check.sentence("link: there is one ahead, and they are not LINKED", RuleEdgeTest::link);
        check.sentence("shift: there is one two PLACES ahead, and they are LINKED", RuleEdgeTest::shift);
        check.sentence("It is GOOD if it BREAKS none", RuleEdgeTest::good);
        check.end();
    }

    private static void due(String call, long got, long want) {
        check.same(call, got, want);
    }

    /** Tells verses of these sets, all of them good, and then looks at one of each set on the next place. */
    private static void next(String text, String sets, String broken) {
        LinkedVerse x = Rooms.simple(text);
        for (int i = 0; i < sets.length(); i++) {
            due(text + " by " + sets + ", place " + (i + 1), Rooms.tell(x, sets.charAt(i) - '0'), i + 1);
        }
        for (int set = 0; set < broken.length(); set++) {
            boolean isBroken = broken.charAt(set) == 'x';
            due(text + " behind " + sets + " by " + set, Rooms.breaks(x, set), isBroken ? 0 : -1);
            due(text + " behind " + sets + " told " + set, Rooms.tell(x, set), isBroken ? -10 : sets.length() + 1);
            if (!isBroken) {
                x.back();
            }
        }
    }

    // In what follows a sign for each of the sets 0 .. 7 tells whether it breaks the rule.
    private static void hasName() {
        next("at 1-1 a;", "", "x.x.x.x.");
        next("at 1-1 b;", "", "xx..xx..");
        next("at 1-1 c;", "", "xxxx....");
        next("group g=a,c;at 1-1 g;", "", "x.x.....");
        next("group g=a,b,c;not 1-1 g;", "", ".xxxxxxx");
        next("group g=b;group h=g,c;not 1-1 h;", "", "..xxxxxx");
        LinkedVerse x = Check.told(Rooms.kinds(8) + "not 1-1 h;");
        x.entry(0, 0, 128);
        x.entry(1, 0, 127);
        due("the last kind", Rooms.breaks(x, 0), 0);
        due("all others", Rooms.breaks(x, 1), -1);
        due("two words", x.breaks(1, -1, 0), 0);
    }

    private static void wholeRun() {
        next("run a 1-3;", "111", ".x.x.x.x");
        next("run a 1-3;", "1101", "........");
        next("run a 1-3;", "0111", ".x.x.x.x");
        next("group g=a,b;run g 1-3;", "123", ".xxx.xxx");
        next("run a 1-9;", "111111111", ".x.x.x.x");
        next("run a 1-9;", "11111111", "........");
    }

    private static void at() {
        next("at 2-3 a;", "", "........");
        next("at 2-3 a;", "0", "x.x.x.x.");
        next("at 2-3 a;", "01", "x.x.x.x.");
        next("at 2-3 a;", "011", "........");
        next("at 1-1 a;", "", "x.x.x.x.");
        next("at 1-1 a;", "1", "........");
        String row = "0".repeat(47);
        next("length 48;at 48-48 a;", row, "x.x.x.x.");
        next("length 48;at 48-48 a;", row.substring(1), "........");
        next("length 2;at 3-48 a;", "0", "........");
    }

    private static void not() {
        next("not 2-3 a;", "", "........");
        next("not 2-3 a;", "1", ".x.x.x.x");
        next("not 2-3 a;", "10", ".x.x.x.x");
        next("not 2-3 a;", "100", "........");
        next("not 1-1 a;", "", ".x.x.x.x");
        next("not 1-1 a;", "0", "........");
        String row = "1".repeat(47);
        next("length 48;not 48-48 a;", row, ".x.x.x.x");
        next("length 48;not 48-48 a;", row.substring(1), "........");
    }

    private static void runTooLong() {
        next("run a 1-1;", "", "........");
        next("run a 1-1;", "1", ".x.x.x.x");
        next("run a 1-2;", "1", "........");
        next("run a 1-2;", "11", ".x.x.x.x");
        next("run a 1-2;", "110", "........");
        next("run a 1-2;", "110110", "........");
        next("length 3;run a 1-2;", "11", ".x.x.x.x");
    }

    private static void runTooShort() {
        next("run a 1-3;", "1", "........");
        next("run a 2-3;", "1", "x.x.x.x.");
        next("run a 2-3;", "11", "........");
        next("run a 2-3;", "0", "........");
        next("run a 2-3;", "", "........");
        next("run a 2-3;", "0110", "........");
        next("run a 2-3;", "01101", "x.x.x.x.");
        next("run a 9-9;", "11111111", "x.x.x.x.");
        next("run a 9-9;", "111111111", ".x.x.x.x");
    }

    private static void runAtLength() {
        next("length 3;run a 2-3;", "00", ".x.x.x.x");
        next("length 4;run a 2-3;", "00", "........");
        next("length 3;run a 2-3;", "01", "x.x.x.x.");
        next("length 3;run a 2-3;", "0", "........");
        next("length 3;run a 3-3;", "11", "x.x.x.x.");
        next("length 2;run a 3-3;", "1", "xxxxxxxx");
        next("length 1;run a 2-2;", "", ".x.x.x.x");
        next("length 1;run a 1-1;", "", "........");
        next("length 48;run a 2-2;", "0".repeat(47), ".x.x.x.x");
        next("length 48;run a 2-2;", "0".repeat(46), "........");
    }

    private static void gap() {
        next("gap a 1;", "10", "........");
        next("gap a 2;", "10", ".x.x.x.x");
        next("gap a 2;", "100", "........");
        next("gap a 2;", "1000", "........");
        next("gap a 2;", "1", "........");
        next("gap a 2;", "110", ".x.x.x.x");
        next("gap a 2;", "", "........");
        next("gap a 2;", "0", "........");
        next("gap a 9;", "100000000", ".x.x.x.x");
        next("gap a 9;", "1000000000", "........");
        next("gap a 9;", "10000000000", "........");
        next("gap a 9;", "0", "........");
        next("gap a 3;", "10001", "........");
        next("gap a 3;", "1000100", ".x.x.x.x");
        next("group g=a,b;gap g 2;", "20", ".xxx.xxx");
    }

    private static void most() {
        next("most a 0;", "", ".x.x.x.x");
        next("most a 1;", "", "........");
        next("most a 1;", "1", ".x.x.x.x");
        next("most a 2;", "10", "........");
        next("most a 2;", "1010", ".x.x.x.x");
        next("length 48;most a 47;", "1".repeat(47), ".x.x.x.x");
        next("length 48;most a 48;", "1".repeat(47), "........");
        next("group g=a,c;most g 2;", "14", ".x.xxxxx");
    }

    private static void least() {
        next("length 3;least a 1;", "00", "x.x.x.x.");
        next("length 3;least a 1;", "0", "........");
        next("length 3;least a 2;", "0", "x.x.x.x.");
        next("length 3;least a 2;", "", "........");
        next("length 3;least a 3;", "", "x.x.x.x.");
        next("length 3;least a 3;", "11", "x.x.x.x.");
        next("length 3;least a 2;", "11", "........");
        next("length 3;least a 4;", "", "xxxxxxxx");
        next("length 48;least a 48;", "1".repeat(47), "x.x.x.x.");
        next("length 48;least a 48;", "", "x.x.x.x.");
        next("length 48;least a 47;", "", "........");
        next("length 47;least a 48;", "", "xxxxxxxx");
        next("length 1;least a 1;", "", "x.x.x.x.");
    }

    private static void again() {
        // Here a sign is for a word: one breaks the rule that stands too near ahead.
        next("again 1;", "", "........");
        next("again 1;", "3", "...x....");
        next("again 1;", "34", "....x...");
        next("again 2;", "34", "...xx...");
        next("again 2;", "345", "....xx..");
        next("again 9;", "12345670", "xxxxxxxx");
        LinkedVerse x = Rooms.simple("again 9;");
        for (int word = 10; word < 20; word++) {
            Rooms.tell(x, word);
        }
        due("ten ahead", Rooms.breaks(x, 10), -1);
        due("nine ahead", Rooms.breaks(x, 11), 0);
        due("one ahead", Rooms.breaks(x, 19), 0);
        LinkedVerse y = Rooms.simple("again 1;");
        due("one of three", y.verse(0, 1, 2, 3), 1);
        due("the first of it as the third", y.breaks(-1, 4, 1), 0);
        due("the second as the first", y.breaks(2, -1, -1), 0);
        due("the third as the second", y.breaks(5, 3, 4), 0);
        due("another", y.breaks(4, 5, 6), -1);
        due("none", y.breaks(-1, -1, -1), -1);
        due("a word twice in one verse", y.verse(0, 4, 4, 4), 2);
        due("no words", y.verse(0, -1, -1, -1), 3);
        due("no words behind none", y.breaks(-1, -1, -1), -1);
        due("the word 0 behind none", y.breaks(0, -1, -1), -1);
        LinkedVerse z = Rooms.simple("again 1;");
        z.verse(0, 0, 29, -1);
        due("word 0", z.breaks(0, -1, -1), 0);
        due("word 29", z.breaks(-1, -1, 29), 0);
    }

    private static void link() {
        next("link;", "", "........");
        next("link;", "1", "x.x.x.x.");
        next("link;", "0", "xxxxxxxx");
        next("link;", "13", "x...x...");
        next("link;", "7", "x.......");
        LinkedVerse x = Rooms.simple("link;");
        Rooms.tell(x, 1);
        x.like(0, 1, 1);
        due("liking 1", Rooms.breaks(x, 2), -1);
        x.like(0, 1, 0);
        due("liking 0", Rooms.breaks(x, 2), 0);
        x.like(0, 0, -9);
        due("a kind together", Rooms.breaks(x, 1), -1);
    }

    private static void shift() {
        next("shift;", "", "........");
        next("shift;", "1", "........");
        next("shift;", "10", ".x.x.x.x");
        next("shift;", "01", "........");
        next("shift;", "70", ".xxxxxxx");
        LinkedVerse x = Rooms.simple("shift;");
        Rooms.tell(x, 1);
        Rooms.tell(x, 0);
        due("liking 0", Rooms.breaks(x, 2), -1);
        x.like(0, 1, 1);
        due("liking 1", Rooms.breaks(x, 2), 0);
        x.like(0, 1, -1);
        due("liking -1", Rooms.breaks(x, 2), -1);
    }

    private static void good() {
        LinkedVerse x = Rooms.simple("not 1-1 a;not 1-1 b;not 1-1 c;");
        int[] first = {-1, 0, 1, 0, 2, 0, 1, 0};
        for (int set = 0; set < 8; set++) {
            due("the first of those that " + set + " breaks", Rooms.breaks(x, set), first[set]);
        }
        LinkedVerse y = Rooms.simple("link;".repeat(11) + "not 1-1 a;");
        due("the twelfth rule", Rooms.breaks(y, 1), 11);
        due("told", Rooms.tell(y, 1), -21);
        due("good", Rooms.tell(y, 2), 1);
        due("the first again", Rooms.breaks(y, 1), 0);
    }
}
