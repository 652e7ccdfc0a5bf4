import java.util.NoSuchElementException;

/** Each promise by itself: ordinary inputs, the edges that the document names, wrong inputs. */
public final class PromiseTest {
    private static final int MIN = Integer.MIN_VALUE;
    private static final int MAX = Integer.MAX_VALUE;
    private static final Check check = new Check();

    public static void main(String[] args) {
        newObject();
        feed();
        readFaults();
        readNumbers();
        readTokens();
        readFullTape();
        readBeginsAnew();
        poetAndTurn();
        passes();
        year();
        entry();
        word();
        like();
        liking();
        verse();
        verseKeepsSet();
        breaks();
        rulesOfPlace();
        rulesOfRun();
        rulesOfGapMostLeast();
        rulesOfWordsAndLinks();
        back();
        worn();
        type();
        ends();
        endsByLength();
        endsLooksAtTold();
        crowded();
        endsOfManyNumbers();
        firstNumbers();
        fullAndCan();
        lastPlace();
        store();
        best();
        bestIsByNow();
        bestRules();
        verseOf();
        poetOf();
        ruleOf();
        count();
        check.end();
    }

    private static void due(String call, long got, long want) {
        check.same(call, got, want);
    }

    private static void due(String call, boolean got, boolean want) {
        check.same(call, got, want);
    }

    private static void newObject() {
        LinkedVerse x = new LinkedVerse();
        int[] counts = {0, 0, 0, 36, 99, 0, 0, 0, 0, 0, 0, 0, 0};
        for (int what = 0; what < counts.length; what++) {
            due("1: count(" + what + ")", x.count(what), counts[what]);
        }
        due("1: turn", x.turn(), -1);
        due("1: pass", x.pass(), -1);
        due("1: back", x.back(), -1);
        due("1: word", x.word(0), 0);
        due("1: full", x.full(1), -1);
        due("1: can", x.can(1), -1);
        due("1: bestOf", x.bestOf(0), -1);
        due("1: ruleOf", x.ruleOf(0, 0), -1);
        due("1: poetOf", x.poetOf(0, 0), -1);
        due("1: verseOf", x.verseOf(1, 0), -1);
        due("1: year is 0", x.entry(4, 0, 0), 1);
        due("1: breaks", x.breaks(0, 1, 2), -1);
        due("1: best", x.best(1), -100);
        due("1: ends", x.ends(), 0);
        due("1: NONE", LinkedVerse.NONE, -1);
    }

    private static void feed() {
        LinkedVerse x = new LinkedVerse();
        due("2: nothing", x.feed(0, 0, 0), 0);
        due("2: zeros left out", x.feed(0x6b00000000000069L, 0, 0x006e006400000000L), 4);
        due("2: high bytes", x.feed(-1L, MIN, 1L), 4 + 8 + 5 + 1);
        due("2: count", x.count(10), 18);
        due("2: that text", x.read(), 41);
        due("2: empty then", x.count(10), 0);
        due("2: order", x.feed(0x6b696e6420000000L, 0x6100000000000000L, 0x3bL), 7);
        due("2: order read", x.read(), 0);
        due("2: order kinds", x.count(0), 1);
        long blanks = 0x2020202020202020L;
        for (int i = 1; i <= 24; i++) {
            due("2: to 576", x.feed(blanks, blanks, blanks), 24 * i);
        }
        due("2: to 599", x.feed(blanks, blanks, 0x0020202020202020L), 599);
        due("2: the 600th alone", x.feed(0x0000780000000000L, blanks, blanks), 600);
        due("2: beyond", x.feed(0x7878787878787878L, 1, -1), 600);
        due("2: beyond read", x.read(), 5991);
        due("2: again empty", x.feed(1, 0, 0), 1);
    }

    private static void fault(String text, int want) {
        LinkedVerse x = Check.told("kind old;length 7;");
        due("3: read of <" + text + ">", Check.read(x, text), want);
        due("3: kinds kept or not, " + text, x.count(3) == 7, want != 0);
    }

    private static void readFaults() {
        fault("", 0);
        fault(" \n \n", 0);
        fault(";", 1);
        fault("kind", 41);
        fault("kind  \n", 71);
        fault("kind a ", 71);
        fault("kind a; ;", 81);
        fault("a", 1);
        fault("Kind a;", 1);
        fault("kind A;", 51);
        fault("kind a\t;", 61);
        fault("kind a1;", 61);
        fault("kind 1;", 51);
        fault("kind abcdefgh;", 0);
        fault("kind abcdefghi;", 51);
        fault("kindabcd e;", 1);
        fault("minutesx 5;", 1);
        fault("kind " + (char) 255 + ";", 51);
        fault("kind a.", 61);
        fault("kind a,b;", 61);
        for (String word : "kind group length minutes at not run gap most least again link shift".split(" ")) {
            fault("kind " + word + ";", 51);
        }
        fault("kind a;kind a;", 123);
        fault("kind a;group a=a;", 133);
        fault("kind a;group b=a;kind b;", 223);
        fault("kind a;group b=a;group b=a;", 233);
        fault("kind a;group b=b;", 154);
        fault("group b=c;", 84);
        fault("group b;", 71);
        fault("group b=;", 81);
        fault("kind a;group b=a,;", 171);
        fault("kind a;group b=a,,a;", 171);
        fault("kind a;group b=a a;", 171);
        fault("kind a;group b=a,a , a;", 0);
        fault("kind a;group b = a;group c=b,a;", 0);
        fault("kind a;group b=link;", 151);
        fault("kind a;group b=abcdefghi;", 151);
        StringBuilder kinds = new StringBuilder();
        for (int i = 0; i < 8; i++) {
            kinds.append("kind k").append((char) ('a' + i)).append(';');
        }
        fault(kinds.toString(), 0);
        fault(kinds + "kind ka;", 8 * 8 * 10 + 2);
        fault(kinds + " kind 1;", (8 * 8 + 1) * 10 + 2);
        StringBuilder groups = new StringBuilder(kinds);
        for (int i = 0; i < 8; i++) {
            groups.append("group g").append((char) ('a' + i)).append("=ka;");
        }
        fault(groups.toString(), 0);
        fault(groups + "group x=ka;", groups.length() * 10 + 2);
        StringBuilder rules = new StringBuilder();
        for (int i = 0; i < 12; i++) {
            rules.append(i % 2 == 0 ? "link;" : "shift;");
        }
        fault(rules.toString(), 0);
        fault(rules + "length 3;minutes 4;kind q;group r=q;", 0);
        fault(rules + "at 1-1 a;", rules.length() * 10 + 2);
        fault(rules + "again 0;", rules.length() * 10 + 2);
    }

    private static void readNumbers() {
        String a = "kind a;";
        fault("length 0;", 75);
        fault("length 1;", 0);
        fault("length 48;", 0);
        fault("length 49;", 75);
        fault("length 007;length 008;", 0);
        fault("length 0007;", 71);
        fault("length 1000;", 71);
        fault("length -1;", 71);
        fault("length 3 3;", 91);
        fault("length;", 61);
        fault("length x;", 71);
        fault("minutes 0;", 85);
        fault("minutes 1;", 0);
        fault("minutes 99;", 0);
        fault("minutes 100;", 85);
        for (String at : new String[] {"at ", "not "}) {
            int p = 7 + at.length();
            fault(a + at + "1-48 a;", 0);
            fault(a + at + "0-4 a;", p * 10 + 5);
            fault(a + at + "49-49 a;", p * 10 + 5);
            fault(a + at + "5-4 a;", (p + 2) * 10 + 5);
            fault(a + at + "5-5 a;", 0);
            fault(a + at + "5-49 a;", (p + 2) * 10 + 5);
            fault(a + at + "5 5 a;", (p + 2) * 10 + 1);
            fault(a + at + "5-5 b;", (p + 4) * 10 + 4);
            fault(a + at + "5-5 run;", (p + 4) * 10 + 1);
            fault(a + at + "5-5 5;", (p + 4) * 10 + 1);
            fault(a + at + "5-5;", (p + 3) * 10 + 1);
        }
        fault(a + "run a 1-9;", 0);
        fault(a + "run a 0-9;", 135);
        fault(a + "run a 10-11;", 135);
        fault(a + "run a 3-2;", 155);
        fault(a + "run a 9-10;", 155);
        fault(a + "run a 2-2;", 0);
        fault(a + "run b 2-2;", 114);
        fault(a + "run a 2;", 141);
        fault(a + "gap a 0;", 135);
        fault(a + "gap a 1;gap a 9;", 0);
        fault(a + "gap a 10;", 135);
        fault(a + "gap b 10;", 114);
        fault(a + "most a 0;most a 48;", 0);
        fault(a + "most a 49;", 145);
        fault(a + "most b 0;", 124);
        fault(a + "least a 0;", 155);
        fault(a + "least a 1;least a 48;", 0);
        fault(a + "least a 49;", 155);
        fault(a + "least c 1;", 134);
        fault("again 0;", 65);
        fault("again 1;again 9;", 0);
        fault("again 10;", 65);
        fault("again;", 51);
        fault("link;shift;", 0);
        fault("link 1;", 51);
        fault("shift a;", 61);
    }

    private static void readTokens() {
        LinkedVerse x = Check.told("kind\na;kind b;at1-3a;run b1-2 ; length\n05 ;minutes07;again\n\n4;");
        due("3: rule 0 sort", x.ruleOf(0, 0), 0);
        due("3: rule 0 second", x.ruleOf(0, 3), 3);
        due("3: rule 1 name", x.ruleOf(1, 1), 2);
        due("3: rule 1 first", x.ruleOf(1, 2), 1);
        due("3: length", x.count(3), 5);
        due("3: minutes", x.count(4), 7);
        due("3: rule 2", x.ruleOf(2, 2), 4);
        Check.feed(x, "kind a; kin");
        due("3: the tape is fed on", Check.read(x, "d bb;"), 0);
        due("3: two kinds", x.count(0), 2);
        due("3: a fault empties the tape", Check.read(x, "kind a"), 61);
        due("3: empty", x.count(10), 0);
        due("3: kinds kept", x.count(0), 2);
        due("3: length by the latest told", Check.read(x, "length 4;length 6;minutes 3;minutes 2;"), 0);
        due("3: 6", x.count(3), 6);
        due("3: 2", x.count(4), 2);
    }

    /** Tapes of all 600 bytes, whose last token is of each sort. */
    private static void readFullTape() {
        String[] ends = {"kind z;", "kind z", "kind zz", "kind z;length 5", "kind z;group y=z", "kind z;group y=z,", "kind", "zz z", " "};
        int[] due = {0, 6001, 6001, 6001, 6001, 6001, 6001, 5961, 0};
        for (int i = 0; i < ends.length; i++) {
            LinkedVerse x = new LinkedVerse();
            due("2: 600", Check.feed(x, " ".repeat(600 - ends[i].length()) + ends[i]), 600);
            due("3: 600 with " + ends[i], x.read(), due[i]);
        }
        LinkedVerse y = new LinkedVerse();
        Check.feed(y, "kind z;kind y;group x=z" + ",y".repeat(288) + ";");
        due("2: a long group", y.count(10), 600);
        due("3: a long group", y.read(), 0);
        due("3: its kinds", y.count(0), 2);
        Check.feed(y, "link;".repeat(120));
        due("3: links", y.read(), 602);
    }

    private static void readBeginsAnew() {
        LinkedVerse x = Check.told("kind a;kind b;length 3;minutes 5;link;");
        x.poet(4);
        x.poet(9);
        x.year(50);
        x.like(0, 1, 3);
        x.entry(0, 0, 1);
        x.type(1);
        x.verse(0, 0, -1, -1);
        x.worn(1, true);
        due("3: ends", x.ends(), 1);
        x.worn(1, false);
        x.store(0, -1, -1);
        due("3: best", x.best(1), 0);
        x.pass();
        due("3: a fault changes nothing", Check.read(x, "kind c;length 9;x"), 161);
        due("3: verses", x.count(5), 1);
        due("3: full", x.full(1), 0);
        due("3: bestOf", x.bestOf(0), 0);
        due("3: passed", x.poetOf(1, 2), 1);
        due("3: no fault", Check.read(x, "kind c;kind d;"), 0);
        int[] counts = {2, 0, 0, 36, 99, 0, 2, 0, 0, 0, 0, 0, 0};
        for (int what = 0; what < counts.length; what++) {
            due("3: count(" + what + ")", x.count(what), counts[what]);
        }
        due("3: value", x.like(0, 1, 0), 0);
        due("3: word", x.word(0), 0);
        due("3: full anew", x.full(1), -1);
        due("3: can anew", x.can(1), -1);
        due("3: bestOf anew", x.bestOf(0), -1);
        due("3: rank stays", x.poetOf(0, 0), 4);
        due("3: verses of poet", x.poetOf(0, 1), 0);
        due("3: passes anew", x.poetOf(1, 2), 0);
        due("3: turn anew", x.turn(), 0);
        x.entry(1, 51, 2);
        x.entry(1, 50, 1);
        due("3: year stays", x.word(1), 1);
        x.type(1);
        due("3: types anew", x.type(1), -1);
    }

    private static void poetAndTurn() {
        LinkedVerse x = new LinkedVerse();
        due("4: -1", x.poet(-1), -1);
        due("4: 100", x.poet(100), -1);
        due("4: min", x.poet(MIN), -1);
        due("4: max", x.poet(MAX), -1);
        due("5: none", x.turn(), -1);
        due("4: 99", x.poet(99), 0);
        due("5: one", x.turn(), 0);
        due("4: 5", x.poet(5), 1);
        due("5: least rank", x.turn(), 1);
        due("4: 5 again", x.poet(5), 2);
        due("5: least number", x.turn(), 1);
        due("4: 0", x.poet(0), 3);
        due("5: rank 0", x.turn(), 3);
        for (int i = 4; i < 12; i++) {
            due("4: next", x.poet(50), i);
        }
        due("4: a 13th", x.poet(50), -1);
        due("4: twelve", x.count(6), 12);
        int[] order = {3, 1, 2, 4, 5, 6, 7, 8, 9, 10, 11, 0, 3, 1};
        for (int i = 0; i < order.length; i++) {
            due("5: fewest verses", x.turn(), order[i]);
            due("12: told", x.verse(1, -1, -1, -1), i + 1);
        }
        LinkedVerse y = Check.told("length 1;");
        y.poet(3);
        y.verse(0, -1, -1, -1);
        due("5: full", y.turn(), -1);
        due("6: full", y.pass(), -1);
        due("6: nobody passed", y.poetOf(0, 2), 0);
        y.back();
        due("5: not full", y.turn(), 0);
    }

    private static void passes() {
        LinkedVerse x = Check.told("minutes 9;kind a;not 1-1 a;");
        x.poet(3);
        x.poet(2);
        x.poet(1);
        x.entry(0, 0, 1);
        due("6: 2 passes", x.pass(), 1);
        due("6: passed", x.poetOf(2, 2), 1);
        due("6: 1 passes", x.pass(), 0);
        due("12: refused by a rule", x.verse(1, 0, -1, -1), -10);
        due("12: still passed", x.poetOf(2, 2) + x.poetOf(1, 2), 2);
        due("6: a new one has not", x.poet(50), 3);
        due("6: 0 passes", x.pass(), 3);
        due("6: all have", x.pass(), 2);
        for (int i = 0; i < 4; i++) {
            due("6: not any more", x.poetOf(i, 2), 0);
        }
        x.pass();
        due("6: told by the next", x.verse(9, -1, -1, -1), 1);
        due("6: who told", x.verseOf(1, 0), 1);
        due("6: forgotten by a verse", x.poetOf(2, 2), 0);
        x.pass();
        due("6: passed again", x.poetOf(2, 2), 1);
        due("6: taken back", x.back(), 1);
        due("6: forgotten by back", x.poetOf(2, 2), 0);
        LinkedVerse y = Check.told("minutes 9;");
        y.poet(0);
        y.poet(1);
        due("12: too long", y.verse(10, -1, -1, -1), -3);
        due("12: has passed", y.poetOf(0, 2), 1);
        due("12: the other", y.turn(), 1);
        due("12: too long too", y.verse(999, -1, -1, -1), -3);
        due("12: none passed", y.poetOf(0, 2) + y.poetOf(1, 2), 0);
        due("12: the first again", y.turn(), 0);
        LinkedVerse z = new LinkedVerse();
        z.poet(0);
        due("6: one alone", z.pass(), 0);
        due("6: one alone has not", z.poetOf(0, 2), 0);
    }

    private static void year() {
        LinkedVerse x = Check.told("kind a;");
        x.entry(0, 9999, 1);
        due("7: 9999", x.year(9999), true);
        due("7: it counts", x.word(0), 1);
        due("7: 10000", x.year(10000), false);
        due("7: -1", x.year(-1), false);
        due("7: min", x.year(MIN), false);
        due("7: unchanged", x.word(0), 1);
        due("7: 0", x.year(0), true);
        due("7: it counts again", x.word(0), 0);
        due("7: the same", x.year(0), true);
    }

    private static void entry() {
        LinkedVerse x = Check.told("kind a;kind b;");
        due("8: word 30", x.entry(30, 0, 1), -1);
        due("8: word -1", x.entry(-1, 0, 1), -1);
        due("8: year -1", x.entry(0, -1, 1), -1);
        due("8: year 10000", x.entry(0, 10000, 1), -1);
        due("8: set 4", x.entry(0, 0, 4), -1);
        due("8: set -1", x.entry(0, 0, -1), -1);
        due("8: set min", x.entry(0, 0, MIN), -1);
        due("8: none yet", x.count(8), 0);
        due("8: one", x.entry(29, 9999, 3), 1);
        due("8: empty set", x.entry(0, 0, 0), 2);
        due("8: in its place", x.entry(0, 0, 2), 2);
        due("8: it counts", x.word(0), 2);
        for (int i = 0; i < 98; i++) {
            due("8: more", x.entry(1, i, 1), 3 + i);
        }
        due("8: a 101st", x.entry(2, 0, 1), -1);
        due("8: in place of one at 100", x.entry(1, 97, 2), 100);
        due("8: still 100", x.count(8), 100);
        x.year(97);
        due("8: it stands", x.word(1), 2);
    }

    private static void word() {
        LinkedVerse x = Check.told("kind a;kind b;kind c;");
        x.entry(5, 20, 2);
        x.entry(5, 10, 1);
        x.entry(5, 30, 4);
        x.entry(6, 25, 7);
        int[][] due = {{0, 0}, {9, 0}, {10, 1}, {19, 1}, {20, 2}, {29, 2}, {30, 4}, {9999, 4}};
        for (int[] pair : due) {
            x.year(pair[0]);
            due("9: in " + pair[0], x.word(5), pair[1]);
        }
        x.entry(5, 30, 0);
        due("9: empty by the latest told", x.word(5), 0);
        due("9: none", x.word(7), 0);
        due("9: -1", x.word(-1), -1);
        due("9: 30", x.word(30), -1);
        due("9: max", x.word(MAX), -1);
    }

    private static void like() {
        LinkedVerse x = Check.told("kind a;kind b;");
        due("10: 9", x.like(0, 1, 9), 0);
        due("10: of two, either way", x.like(1, 0, -9), 9);
        due("10: it was", x.like(0, 1, 4), -9);
        due("10: with itself", x.like(1, 1, 5), 0);
        due("10: 10", x.like(0, 1, 10), -100);
        due("10: -10", x.like(0, 1, -10), -100);
        due("10: kind 2", x.like(0, 2, 1), -100);
        due("10: kind 2 first", x.like(2, 0, 1), -100);
        due("10: kind -1", x.like(-1, 0, 1), -100);
        due("10: max", x.like(0, MAX, 1), -100);
        due("10: unchanged", x.like(0, 1, 0), 4);
        due("10: no kinds", new LinkedVerse().like(0, 0, 0), -100);
    }

    private static boolean throwsNone(LinkedVerse x, int a, int b) {
        try {
            x.liking(a, b);
        } catch (NoSuchElementException e) {
            return true;
        }
        return false;
    }

    private static void liking() {
        LinkedVerse x = Check.told("kind a;kind b;kind c;");
        x.like(0, 1, 2);
        x.like(0, 0, -3);
        x.like(1, 2, 7);
        due("11: a, b", x.liking(1, 2), 2);
        due("11: ab, ab", x.liking(3, 3), -3 + 2 + 2);
        due("11: ab, bc", x.liking(3, 6), 2 + 7);
        due("11: all", x.liking(7, 7), -3 + 4 + 14);
        due("11: empty", x.liking(0, 7), 0);
        due("11: 8 throws", throwsNone(x, 8, 1), true);
        due("11: second 8 throws", throwsNone(x, 1, 8), true);
        due("11: 9 throws", throwsNone(x, 9, 0), true);
        due("11: -1 throws", throwsNone(x, -1, 1), true);
        due("11: min throws", throwsNone(x, 1, MIN), true);
        due("11: 7 not", throwsNone(x, 7, 7), false);
        due("11: no kinds", throwsNone(new LinkedVerse(), 0, 0), false);
        due("11: no kinds 1", throwsNone(new LinkedVerse(), 0, 1), true);
    }

    private static void verse() {
        LinkedVerse x = Check.told("kind a;length 3;minutes 5;not 1-1 a;again 1;");
        due("12: no poets", x.verse(0, -1, -1, -1), -1);
        x.poet(1);
        x.entry(0, 0, 1);
        due("12: word 30", x.verse(0, 30, -1, -1), -1);
        due("12: second -2", x.verse(0, 0, -2, -1), -1);
        due("12: third", x.verse(0, 0, -1, MAX), -1);
        due("12: minutes -1", x.verse(-1, 1, -1, -1), -1);
        due("12: minutes 1000", x.verse(1000, 1, -1, -1), -1);
        due("12: too long before rules", x.verse(6, 0, -1, -1), -3);
        due("12: rule 0", x.verse(5, 0, -1, -1), -10);
        due("12: nothing happened", x.count(5), 0);
        due("12: told", x.verse(5, 1, -1, 2), 1);
        due("12: rule 1", x.verse(0, 3, 2, -1), -11);
        due("12: told with a gap", x.verse(0, -1, 3, -1), 2);
        x.worn(1, true);
        due("12: worn", x.verse(999, 4, -1, -1), -9);
        due("12: no such words before worn", x.verse(0, 44, -1, -1), -1);
        x.worn(1, false);
        due("12: third", x.verse(0, -1, -1, -1), 3);
        x.worn(1, true);
        due("12: full before worn", x.verse(0, -1, -1, -1), -1);
    }

    private static void verseKeepsSet() {
        LinkedVerse x = Check.told("kind a;kind b;kind c;");
        x.poet(0);
        x.entry(0, 0, 1);
        x.entry(0, 10, 2);
        x.entry(1, 0, 4);
        x.verse(0, 0, 1, -1);
        x.year(10);
        due("12: by the year then", x.verseOf(1, 1), 5);
        x.verse(0, 0, 1, 0);
        due("12: by the year now", x.verseOf(2, 1), 6);
        x.entry(0, 0, 0);
        due("12: it stays", x.verseOf(1, 1), 5);
    }

    private static void breaks() {
        LinkedVerse x = Check.told("kind a;length 1;most a 0;not 1-1 a;");
        x.entry(3, 0, 1);
        due("13: without poets", x.breaks(3, -1, -1), 0);
        due("13: none", x.breaks(4, -1, -1), -1);
        due("13: no words", x.breaks(-1, -1, -1), -1);
        due("13: 30", x.breaks(30, -1, -1), -2);
        due("13: -2", x.breaks(-1, -1, -2), -2);
        x.poet(0);
        x.verse(0, -1, -1, -1);
        due("13: full", x.breaks(-1, -1, -1), -2);
        x.worn(1, true);
        due("13: full before worn", x.breaks(-1, -1, -1), -2);
        LinkedVerse y = Check.told("length 2;");
        y.poet(0);
        y.verse(0, -1, -1, -1);
        y.worn(1, true);
        due("13: worn", y.breaks(-1, -1, -1), -9);
        due("13: words before worn", y.breaks(-1, 77, -1), -2);
    }

    /** A room with a poet and words 0 .. 7 of the sets 0 .. 7, without again. */
    private static LinkedVerse room(String text) {
        LinkedVerse x = Check.told("kind a;kind b;kind c;" + text);
        x.poet(0);
        for (int set = 0; set < 8; set++) {
            x.entry(set, 0, set);
        }
        return x;
    }

    /** Tells sets one by one; each is due to be told, but the last, which is due to answer so. */
    private static void row(String text, int answer, int... sets) {
        LinkedVerse x = room(text);
        for (int i = 0; i < sets.length; i++) {
            int want = i == sets.length - 1 ? answer : i + 1;
            int wantBreaks = want < 0 ? -10 - want : -1;
            due("13: " + text + " breaks by " + sets[i] + " on " + (i + 1), x.breaks(sets[i], -1, -1), wantBreaks);
            due("12: " + text + " with " + sets[i] + " on " + (i + 1), x.verse(0, sets[i], -1, -1), want);
        }
    }

    private static void rulesOfPlace() {
        row("at 2-3 a;", 4, 2, 1, 5, 0);
        row("at 2-3 a;", -10, 2, 6);
        row("at 2-3 a;", -10, 2, 1, 0);
        row("at 1-1 a;", -10, 2);
        row("not 2-3 a;", 4, 1, 2, 4, 1);
        row("not 2-3 a;", -10, 1, 3);
        row("not 2-3 a;", -10, 1, 0, 1);
        row("group g=b,c;at 1-1 g;", 1, 4);
        row("group g=b,c;group h=g;not 1-1 h;", -10, 2);
        row("group g=b,c;group h=g,a;at 1-1 h;not 1-1 a;", -11, 1);
        row("link;not 1-1 a;at 1-1 b;", -11, 1);
    }

    private static void rulesOfRun() {
        row("run a 2-3;", -10, 1, 0);
        row("run a 2-3;", 3, 1, 1, 0);
        row("run a 2-3;", 4, 1, 1, 1, 0);
        row("run a 2-3;", -10, 1, 1, 1, 1);
        row("run a 2-3;", -10, 0, 1, 1, 0, 1, 2);
        row("run a 1-1;", -10, 1, 1);
        row("run a 1-1;", 3, 1, 2, 1);
        row("length 3;run a 2-2;", -10, 0, 0, 1);
        row("length 3;run a 2-2;", 3, 0, 1, 1);
        row("length 1;run a 2-2;", -10, 1);
        row("length 2;run a 1-2;", 2, 0, 1);
        row("group g=a,b;run g 2-2;", 3, 1, 2, 4);
        row("group g=a,b;run g 2-2;", -10, 1, 2, 1);
    }

    private static void rulesOfGapMostLeast() {
        row("gap a 2;", 1, 1);
        row("gap a 2;", 2, 1, 1);
        row("gap a 2;", -10, 1, 1, 0, 1);
        row("gap a 2;", 5, 1, 1, 0, 0, 1);
        row("gap a 1;", 3, 1, 0, 1);
        row("gap a 9;", 11, 1, 0, 0, 0, 0, 0, 0, 0, 0, 0, 1);
        row("gap a 9;", -10, 1, 0, 0, 0, 0, 0, 0, 0, 0, 1);
        row("gap a 3;", -10, 0, 0, 1, 0, 0, 3);
        row("most a 0;", -10, 1);
        row("most a 0;", 1, 0);
        row("most a 2;", -10, 1, 0, 1, 1);
        row("most a 2;", 4, 1, 0, 1, 0);
        row("length 3;least a 2;", -10, 0, 0);
        row("length 3;least a 2;", 3, 0, 1, 1);
        row("length 3;least a 2;", 3, 1, 1, 0);
        row("length 3;least a 2;", -10, 1, 0, 0);
        row("length 3;least a 4;", -10, 1);
        row("length 3;least a 3;", -10, 0);
    }

    private static void rulesOfWordsAndLinks() {
        row("again 2;", -10, 1, 1);
        row("again 2;", -10, 1, 0, 1);
        row("again 2;", 4, 1, 0, 2, 1);
        row("link;", 2, 1, 3);
        row("link;", -10, 1, 2);
        row("link;", -10, 0, 0);
        row("link;", 1, 0);
        row("shift;", 2, 1, 1);
        row("shift;", -10, 1, 0, 1);
        row("shift;", 3, 1, 1, 2);
        LinkedVerse x = room("link;shift;again 9;");
        x.like(0, 1, 1);
        x.like(0, 2, -1);
        due("12: first", x.verse(0, 1, -1, -1), 1);
        due("13: liking above 0", x.breaks(2, -1, -1), -1);
        due("13: liking 0", x.breaks(2, 4, -1), 0);
        due("13: word twice in one", x.breaks(2, 2, -1), -1);
        due("13: shared word", x.breaks(2, -1, 1), 2);
        due("12: second", x.verse(0, 2, -1, -1), 2);
        due("13: linked by liking two ahead", x.breaks(2, -1, -1), 1);
        due("13: rule 0 of two", x.breaks(4, -1, -1), 0);
        due("13: linked, rule 2 is later", x.breaks(-1, 6, 2), 2);
        due("13: good", x.breaks(6, -1, -1), -1);
    }

    private static void back() {
        LinkedVerse x = room("length 2;most a 1;");
        due("14: none", x.back(), -1);
        x.verse(0, 1, -1, -1);
        due("14: rule", x.verse(0, 1, -1, -1), -10);
        x.verse(0, 2, -1, -1);
        x.worn(2, true);
        due("14: a worn one", x.back(), 2);
        due("14: none worn", x.count(11), 0);
        due("14: the first", x.back(), 1);
        due("14: of poet", x.poetOf(0, 1), 0);
        due("14: none any more", x.back(), -1);
        due("14: told anew", x.verse(0, 1, -1, -1), 1);
        due("14: not worn", x.verse(0, 0, -1, -1), 2);
        due("14: not worn", x.verseOf(2, 5), 0);
    }

    private static void worn() {
        LinkedVerse x = room("");
        due("15: none", x.worn(1, true), false);
        x.verse(0, 1, -1, -1);
        x.verse(0, 1, -1, -1);
        due("15: 0", x.worn(0, true), false);
        due("15: 3", x.worn(3, true), false);
        due("15: min", x.worn(MIN, true), false);
        due("15: max", x.worn(MAX, false), false);
        due("15: not worn", x.worn(1, false), false);
        due("15: worn", x.worn(1, true), true);
        due("15: worn already", x.worn(1, true), false);
        due("15: second", x.worn(2, true), true);
        due("15: two", x.count(11), 2);
        due("15: not any more", x.worn(1, false), true);
        due("15: of one", x.verseOf(1, 5), 0);
        due("15: of two", x.verseOf(2, 5), 1);
        due("15: one worn is enough", x.verse(0, 1, -1, -1), -9);
    }

    private static void type() {
        LinkedVerse x = Check.told("kind a;kind b;kind c;kind d;kind e;");
        due("16: 32", x.type(32), -1);
        due("16: -1", x.type(-1), -1);
        due("16: min", x.type(MIN), -1);
        due("16: empty", x.type(0), 0);
        due("16: twice", x.type(0), -1);
        for (int i = 1; i < 16; i++) {
            due("16: more", x.type(32 - i), i);
        }
        due("16: a 17th", x.type(1), -1);
        due("16: sixteen", x.count(7), 16);
        due("16: no kinds", new LinkedVerse().type(1), -1);
        due("16: no kinds, empty", new LinkedVerse().type(0), 0);
    }

    private static void ends() {
        LinkedVerse x = Check.told("kind a;kind b;length 3;run a 2-2;link;");
        due("17: no types", x.ends(), 0);
        due("17: that of no verse", x.count(12), 1);
        x.type(1);
        due("17: a alone", x.ends(), 0);
        due("17: states", x.count(12), 3);
        x.type(2);
        x.type(3);
        due("17: all", x.ends(), 1);
        due("17: states of all", x.count(12), 14);
        LinkedVerse y = Check.told("kind a;length 48;");
        y.type(1);
        y.type(0);
        due("17: no rules", y.ends(), 1);
        due("17: pairs of sets", y.count(12), 1 + 2 + 47 * 4);
    }

    /** Numbers of states where each sort of rule keeps its number, told by hand. */
    private static void endsByLength() {
        String[] rules = {"most a 1;", "least a 1;", "gap a 2;", "run a 1-2;", "at 2-2 a;", "not 2-2 a;", "again 1;"};
        // Behind place 1: a or none. Behind 2 and 3: by pair of sets and number.
        int[] due = {1 + 2 + 3 + 4, 1 + 2 + 4 + 4, 1 + 2 + 4 + 4, 1 + 2 + 4 + 4, 1 + 2 + 2 + 2, 1 + 2 + 2 + 2, 1 + 2 + 4 + 4};
        int[] full = {1, 1, 1, 1, 1, 1, 1};
        for (int i = 0; i < rules.length; i++) {
            LinkedVerse x = Check.told("kind a;length 3;" + rules[i]);
            x.type(0);
            x.type(1);
            due("17: " + rules[i], x.ends(), full[i]);
            due("26: states of " + rules[i], x.count(12), due[i]);
        }
        LinkedVerse y = Check.told("kind a;length 3;least a 4;");
        y.type(1);
        due("17: least above length", y.ends(), 0);
        due("26: states of none", y.count(12), 1);
        LinkedVerse z = Check.told("kind a;length 2;run a 2-2;");
        z.type(1);
        z.type(0);
        due("17: the end of a run", z.ends(), 1);
        due("19: only whole runs", z.can(2), 3);
        due("26: states", z.count(12), 1 + 2 + 2);
    }

    private static void endsLooksAtTold() {
        LinkedVerse x = room("length 2;link;");
        x.like(0, 1, 1);
        x.verse(0, 1, -1, -1);
        x.verse(0, 2, -1, -1);
        due("17: told and full", x.ends(), 1);
        due("26: states", x.count(12), 3);
        due("18: a verse stood", x.full(1), -1);
        due("19: a verse stood", x.can(2), -1);
        x.like(0, 1, 0);
        due("17: a told one is not good any more", x.ends(), 0);
        due("26: states up to it", x.count(12), 2);
        x.worn(2, true);
        due("17: no types", x.ends(), 0);
        x.type(4);
        x.type(7);
        due("17: a worn one by type", x.ends(), 1);
        due("18: not the first type", x.full(2), 1);
        due("19: that alone", x.can(2), 2);
        due("18: the told one", x.full(1), -1);
        LinkedVerse y = room("length 2;again 5;");
        y.type(1);
        y.verse(0, 1, -1, -1);
        due("17: again aside", y.ends(), 1);
    }

    private static void crowded() {
        LinkedVerse x = Check.told("kind a;kind b;kind c;kind d;length 2;");
        for (int i = 0; i < 16; i++) {
            x.type(i);
        }
        due("17: 256 is not crowded", x.ends(), 1);
        due("26: 1 + 16 + 256", x.count(12), 273);
        LinkedVerse y = Check.told("kind a;kind b;kind c;kind d;length 3;most a 9;");
        for (int i = 0; i < 16; i++) {
            y.type(i);
        }
        due("17: crowded", y.ends(), -4);
        due("26: up to the 401st", y.count(12), 1 + 16 + 256 + 401);
        due("18: crowded", y.full(1), -1);
        due("19: crowded", y.can(1), -1);
        // Behind a place p there are p - 1 numbers for each of the 100 pairs: 400 behind 5, 500 behind 6.
        for (int length = 5; length <= 6; length++) {
            LinkedVerse z = Check.told("kind a;kind b;kind c;kind d;length " + length + ";most a 48;");
            for (int i = 0; i < 10; i++) {
                z.type(i);
            }
            due("17: 400 or more", z.ends(), length == 5 ? 1 : -4);
            due("26: 400 or more", z.count(12), 1 + 10 + 100 + 200 + 300 + 400 + (length == 5 ? 0 : 401));
        }
    }

    /** Twelve rules that keep a number: no number is lost or mixed with another. */
    private static void endsOfManyNumbers() {
        for (int where = 0; where < 12; where++) {
            StringBuilder text = new StringBuilder("kind a;kind b;length 6;");
            for (int i = 0; i < 12; i++) {
                text.append(i == where ? "most a 3;" : "least b 1;");
            }
            LinkedVerse x = Check.told(text.toString());
            x.type(1);
            x.type(2);
            due("17: number " + where, x.ends(), 1);
            due("18: three of the first", x.full(3) * 10 + x.full(4), 1);
            // Behind p: 4 pairs by how many a there may be among the others.
            due("26: number " + where, x.count(12), 1 + 2 + 4 + 8 + 11 + 12 + 12);
        }
    }

    private static void firstNumbers() {
        for (int where = 0; where < 12; where++) {
            StringBuilder text = new StringBuilder("kind a;kind b;length 4;");
            for (int i = 0; i < 12; i++) {
                text.append(i == where ? "gap a 3;" : "least b 1;");
            }
            LinkedVerse x = Check.told(text.toString());
            x.type(2);
            x.type(1);
            due("17: gap " + where, x.ends(), 1);
            due("19: gap " + where + " before the first", x.can(2), 3);
            // Behind 3 all rows but aba are good, and aab and bab end alike; behind 4 none is all of a.
            due("26: gap " + where, x.count(12), 1 + 2 + 4 + 6 + 5);
        }
    }

    private static void lastPlace() {
        LinkedVerse x = room("length 48;at 48-48 b;");
        for (int place = 1; place < 48; place++) {
            due("12: place", x.verse(0, 1, -1, -1), place);
        }
        x.type(1);
        x.type(2);
        due("17: the last place", x.ends(), 1);
        due("18: 48", x.full(48), 1);
        due("19: 48", x.can(48), 2);
        due("18: 47", x.full(47), -1);
        due("18: 49", x.full(49), -1);
        due("12: 48", x.verse(9, 3, -1, -1), 48);
        due("23: 48", x.verseOf(48, 6), 9);
        due("15: 48", x.worn(48, true), true);
        due("15: 49", x.worn(49, true), false);
        due("17: worn", x.ends(), 1);
        due("19: worn", x.can(48), 2);
        Check.read(x, "length 48;");
        for (int place = 1; place <= 48; place++) {
            due("12: place anew", x.verse(0, -1, -1, -1), place);
        }
        due("3: not worn any more", x.verseOf(48, 5), 0);
        due("26: none worn", x.count(11), 0);
    }

    private static void fullAndCan() {
        LinkedVerse x = room("length 4;run a 2-2;link;");
        due("18: before any", x.full(1), -1);
        x.type(1);
        x.type(2);
        x.type(3);
        x.verse(0, 3, -1, -1);
        due("17: 1", x.ends(), 1);
        int[] full = {-1, -1, 0, -1, -1, -1};
        due("18: 0", x.full(0), -1);
        due("18: 5", x.full(5), -1);
        due("18: min", x.full(MIN), -1);
        due("19: 0", x.can(0), -1);
        due("19: 49", x.can(49), -1);
        due("19: max", x.can(MAX), -1);
        due("18: 1", x.full(1), full[1]);
        due("18: 2", x.full(2), 2);
        due("18: 3", x.full(3), 1);
        due("18: 4", x.full(4), 1);
        due("19: 2", x.can(2), 4);
        due("19: 3", x.can(3), 2);
        due("19: 4", x.can(4), 2);
        x.back();
        due("18: of the latest ends", x.full(2), 2);
        due("18: a verse stood then", x.full(1), -1);
        x.type(0);
        due("17: anew", x.ends(), 1);
        due("18: 1 anew", x.full(1), 0);
        due("19: 1 anew", x.can(1), 7);
        x.like(0, 0, -9);
        due("18: kept", x.full(1), 0);
        LinkedVerse y = room("length 3;shift;");
        y.type(3);
        y.type(1);
        y.type(2);
        y.type(4);
        due("17: y", y.ends(), 1);
        due("18: y1", y.full(1), 0);
        due("18: y2", y.full(2), 0);
        due("18: y3", y.full(3), 3);
        due("19: y1", y.can(1), 15);
    }

    private static void store() {
        LinkedVerse x = room("");
        due("20: 30", x.store(30, -1, -1), -1);
        due("20: -2", x.store(-1, -2, -1), -1);
        due("20: max", x.store(-1, -1, MAX), -1);
        due("20: first", x.store(-1, -1, -1), 0);
        for (int i = 1; i < 20; i++) {
            due("20: next", x.store(i, 0, 29), i);
        }
        due("20: a 21st", x.store(0, 0, 0), -1);
        due("20: twenty", x.count(9), 20);
    }

    private static void best() {
        LinkedVerse x = room("length 3;");
        due("21: empty store", x.best(1), -100);
        due("21: 0", x.best(0), -102);
        due("21: 4", x.best(4), -102);
        due("21: min", x.best(MIN), -102);
        x.like(0, 1, 5);
        x.like(1, 2, 2);
        x.like(0, 2, -9);
        x.store(4, -1, -1);
        x.store(1, -1, -1);
        x.store(2, -1, -1);
        due("21: the first without one ahead", x.best(1), 0);
        due("22: first by numbers", x.bestOf(0), 0);
        due("22: no second", x.bestOf(1), -1);
        due("21: two", x.best(2), 5);
        due("22: 1", x.bestOf(0), 1);
        due("22: 2", x.bestOf(1), 2);
        due("21: three", x.best(3), 7);
        due("22: 0", x.bestOf(0), 0);
        due("22: then 2", x.bestOf(1), 2);
        due("22: then 1", x.bestOf(2), 1);
        due("22: -1", x.bestOf(-1), -1);
        due("22: 3", x.bestOf(3), -1);
        due("22: max", x.bestOf(MAX), -1);
        x.verse(0, 4, -1, -1);
        due("22: kept", x.bestOf(2), 1);
        due("21: no room for three", x.best(3), -100);
        due("22: told none", x.bestOf(0), -1);
        due("21: behind the sheet", x.best(1), 2);
        due("22: b", x.bestOf(0), 2);
        due("21: another m", x.best(-1), -102);
        due("22: none by another m", x.bestOf(0), -1);
        x.best(1);
        x.worn(1, true);
        due("21: worn", x.best(1), -109);
        due("22: none by worn", x.bestOf(0), -1);
        due("21: m before worn", x.best(4), -102);
    }

    private static void bestIsByNow() {
        LinkedVerse x = Check.told("kind a;kind b;length 4;link;");
        x.poet(0);
        x.like(0, 0, -9);
        x.like(0, 1, -8);
        x.like(1, 1, -9);
        x.entry(0, 0, 1);
        x.entry(1, 0, 2);
        x.entry(1, 10, 3);
        x.verse(0, 0, -1, -1);
        x.store(1, -1, -1);
        due("21: not linked", x.best(1), -100);
        x.year(10);
        due("21: by the year of now", x.best(1), -17);
        due("22: it is", x.bestOf(0), 0);
        x.store(1, -1, -1);
        x.store(0, -1, -1);
        due("21: less than nothing", x.best(1), -9);
        due("22: the third", x.bestOf(0), 2);
        due("21: two", x.best(2), -9 - 17);
        due("22: third first", x.bestOf(0), 2);
        due("22: of two alike the first", x.bestOf(1), 0);
        LinkedVerse y = Check.told("kind a;kind b;kind c;kind d;length 4;");
        y.poet(0);
        y.entry(0, 0, 15);
        y.like(0, 0, -9);
        y.like(1, 1, -9);
        y.like(2, 2, -9);
        y.like(3, 3, -9);
        y.like(0, 1, -9);
        y.like(0, 2, -9);
        y.like(0, 3, -5);
        y.verse(0, 0, -1, -1);
        y.store(0, -1, -1);
        y.like(1, 2, -9);
        due("21: a worth of -100", y.best(1), -100);
        due("22: is a worth", y.bestOf(0), 0);
    }

    private static void bestRules() {
        LinkedVerse x = room("length 4;again 2;run a 2-2;");
        x.store(1, -1, -1);
        x.store(1, -1, -1);
        x.store(3, -1, -1);
        x.store(2, -1, -1);
        due("21: again among them", x.best(2), 0);
        due("22: 0", x.bestOf(0), 0);
        due("22: not 1, the same word", x.bestOf(1), 2);
        due("21: three", x.best(3), 0);
        due("22: 0", x.bestOf(0), 0);
        due("22: 2", x.bestOf(1), 2);
        due("22: 3", x.bestOf(2), 3);
        due("21: they are not told", x.count(5), 0);
        due("13: nor counted", x.breaks(1, -1, -1), -1);
        x.verse(0, 1, -1, -1);
        due("21: the run goes on", x.best(2), 0);
        due("22: 2", x.bestOf(0), 2);
        due("22: 3", x.bestOf(1), 3);
        due("21: three", x.best(3), -100);
    }

    private static void verseOf() {
        LinkedVerse x = room("length 4;");
        x.poet(5);
        x.like(0, 1, 1);
        x.verse(7, 1, -1, 2);
        x.verse(99, -1, 4, -1);
        x.verse(0, 2, -1, -1);
        int[][] due = {
            {0, 3, 1, -1, 2, 0, 7, 0, 0, -1},
            {1, 4, -1, 4, -1, 1, 99, 0, 0, -1},
            {0, 2, 2, -1, -1, 0, 0, 0, 1, -1},
        };
        x.worn(2, true);
        for (int place = 1; place <= 3; place++) {
            for (int what = 0; what < 10; what++) {
                due("23: " + place + ", " + what, x.verseOf(place, what), due[place - 1][what]);
            }
        }
        x.like(1, 2, 1);
        due("23: linked by the values of now", x.verseOf(3, 7), 1);
        due("23: 0", x.verseOf(0, 1), -1);
        due("23: 4", x.verseOf(4, 1), -1);
        due("23: what -1", x.verseOf(1, -1), -1);
        due("23: min", x.verseOf(MIN, MIN), -1);
        due("23: max", x.verseOf(1, MAX), -1);
    }

    private static void poetOf() {
        LinkedVerse x = room("");
        x.poet(99);
        x.verse(0, 1, -1, -1);
        x.verse(0, 1, -1, -1);
        x.verse(0, 1, -1, -1);
        x.pass();
        int[][] due = {{0, 2, 0, -1}, {99, 1, 1, -1}};
        for (int poet = 0; poet < 2; poet++) {
            for (int what = 0; what < 4; what++) {
                due("24: " + poet + ", " + what, x.poetOf(poet, what), due[poet][what]);
            }
        }
        due("24: -1", x.poetOf(-1, 0), -1);
        due("24: 2", x.poetOf(2, 0), -1);
        due("24: what -1", x.poetOf(0, -1), -1);
        due("24: max", x.poetOf(MAX, 0), -1);
    }

    private static void ruleOf() {
        LinkedVerse x = room("group g=a,c;at 40-41 g;not 42-43 b;run g 1-9;gap c 3;most g 48;least b 1;again 9;link;shift;");
        x.like(0, 1, 9);
        x.like(2, 2, 9);
        x.verse(0, 1, -1, -1);
        x.verse(0, 3, -1, -1);
        int[][] due = {
            {0, 5, 40, 41, 2, -1}, {1, 2, 42, 43, 1, -1}, {2, 5, 1, 9, 2, -1}, {3, 4, 3, 0, 0, -1}, {4, 5, 48, 0, 2, -1},
            {5, 2, 1, 0, 1, -1}, {6, 0, 9, 0, 0, -1}, {7, 0, 0, 0, 0, -1}, {8, 0, 0, 0, 0, -1},
        };
        for (int times = 0; times < 2; times++) {
            for (int rule = 0; rule < due.length; rule++) {
                for (int what = 0; what < 6; what++) {
                    due("25: " + rule + ", " + what, x.ruleOf(rule, what), due[rule][what]);
                }
            }
            x.worn(1, true);
        }
        due("25: -1", x.ruleOf(-1, 0), -1);
        due("25: 9", x.ruleOf(9, 0), -1);
        due("25: what -1", x.ruleOf(0, -1), -1);
        due("25: min", x.ruleOf(MIN, MAX), -1);
    }

    private static void count() {
        LinkedVerse x = room("group g=a,c;group h=g;length 3;minutes 8;most a 3;");
        x.verse(0, 1, -1, -1);
        x.verse(0, 1, -1, -1);
        x.worn(2, true);
        x.type(1);
        x.store(1, -1, -1);
        x.store(1, -1, -1);
        x.ends();
        Check.feed(x, "kind");
        int[] due = {3, 2, 1, 3, 8, 2, 1, 1, 8, 2, 4, 1, 4};
        for (int what = 0; what < due.length; what++) {
            due("26: " + what, x.count(what), due[what]);
        }
        due("26: 13", x.count(13), -1);
        due("26: -1", x.count(-1), -1);
        due("26: min", x.count(MIN), -1);
        due("26: max", x.count(MAX), -1);
        x.type(3);
        x.ends();
        due("26: the latest alone", x.count(12), 1 + 1 + 2 + 4);
    }
}
