import java.util.List;

/** The tape and the text, promises 1 to 3: each sentence that names an edge has a test of its own. */
public final class TextEdgeTest {
    private static final Check check = new Check();
    private static final String[] KEYWORDS = {
        "kind", "group", "length", "minutes", "at", "not", "run", "gap", "most", "least", "again", "link", "shift"};
    private static final String[] RULES = {
        "at 1-48 a", "not 1-1 a", "run a 1-9", "gap a 1", "most a 0", "least a 1", "again 1", "link", "shift"};

    public static void main(String[] args) {
        check.sentence("An object is used for at most 512 calls after it has been made", TextEdgeTest::all512Calls);
        check.sentence("1: No KINDS", TextEdgeTest::newWithoutKinds);
        check.sentence("1: No .. RULES", TextEdgeTest::newWithoutRules);
        check.sentence("1: No .. POETS", TextEdgeTest::newWithoutPoets);
        check.sentence("1: No .. TYPES", TextEdgeTest::newWithoutTypes);
        check.sentence("1: YEAR 0", TextEdgeTest::newYear);
        check.sentence("1: an empty SHEET and TAPE", TextEdgeTest::newEmpty);
        check.sentence("2: Up to 24 bytes come behind the TAPE", TextEdgeTest::upTo24);
        check.sentence("2: those of a, b, c, of each the highest first", TextEdgeTest::orderOfBytes);
        check.sentence("2: bytes 0 are left out", TextEdgeTest::zerosLeftOut);
        check.sentence("2: and what is beyond 600: how many it has", TextEdgeTest::beyond600);
        check.sentence("THE TEXT, on the TAPE of at most 600 bytes", TextEdgeTest::textOf600);
        check.sentence("{TELLING ;}", TextEdgeTest::tellings);
        check.sentence("TOKENS, the longest that can be", TextEdgeTest::longestTokens);
        check.sentence("with blanks (32, 10) between or not", TextEdgeTest::blanks);
        check.sentence("WORDS (letters a .. z)", TextEdgeTest::letters);
        check.sentence("NUMBERS (digits)", TextEdgeTest::digits);
        check.sentence("the signs ; = , -", TextEdgeTest::signs);
        check.sentence("A NAME is a WORD of 1 to 8 letters", TextEdgeTest::namesOf8);
        check.sentence("but none of the thirteen that stand in quotes below", TextEdgeTest::thirteenWords);
        check.sentence("N is a NUMBER of 1 to 3 digits", TextEdgeTest::numbersOf3);
        check.sentence("TELLING, the first four of which are no RULES", TextEdgeTest::firstFourAreNoRules);
        check.sentence("'kind' NAME: a KIND, numbered from 0 on, 8 at most", TextEdgeTest::kinds8);
        check.sentence("'group' NAME = NAME {, NAME}: 8 at most", TextEdgeTest::groups8);
        check.sentence("(a GROUP's NAME stands for all of its KINDS)", TextEdgeTest::groupNames);
        check.sentence("'length' N: LENGTH (1 .. 48; 36 at first)", TextEdgeTest::lengths);
        check.sentence("'minutes' N: MINUTES (1 .. 99; 99 at first)", TextEdgeTest::minutes);
        check.sentence("RULES, numbered from 0 on, 12 at most", TextEdgeTest::rules12);
        check.sentence("FAULTS, the first by its place", TextEdgeTest::firstByPlace);
        check.sentence("(a byte; the end: how many there are)", TextEdgeTest::faultAtEnd);
        check.sentence("of one place the least", TextEdgeTest::leastOfOnePlace);
        check.sentence("1 a TOKEN, or what is none, that can't stand there", TextEdgeTest::fault1);
        check.sentence("(a WORD, a NUMBER that is too long, too: at its first byte)", TextEdgeTest::fault1TooLong);
        check.sentence("2 a 9th KIND (at its first TOKEN)", TextEdgeTest::fault2Kind);
        check.sentence("2 a 9th GROUP (at its first TOKEN)", TextEdgeTest::fault2Group);
        check.sentence("2 a 13th RULE (at its first TOKEN)", TextEdgeTest::fault2Rule);
        check.sentence("3 in kind, group a NAME behind that WORD that is told already (at it)", TextEdgeTest::fault3);
        check.sentence("4 a NAME that is not told (at it)", TextEdgeTest::fault4);
        check.sentence("5 an N that is not as told (at it): of length, minutes as above", TextEdgeTest::fault5Length);
        check.sentence("5 of at, not 1 .. 48, the second not below the first", TextEdgeTest::fault5At);
        check.sentence("5 of run 1 .. 9, likewise", TextEdgeTest::fault5Run);
        check.sentence("5 of gap, again 1 .. 9", TextEdgeTest::fault5GapAgain);
        check.sentence("5 of most 0 .. 48", TextEdgeTest::fault5Most);
        check.sentence("5 of least 1 .. 48", TextEdgeTest::fault5Least);
        check.sentence("A TEXT with a FAULT changes nothing", TextEdgeTest::faultChangesNothing);
        check.sentence("3: The TAPE, empty then", TextEdgeTest::tapeIsEmptyThen);
        check.sentence("3: 0, or the FAULT: its number and 10 times its place", TextEdgeTest::faultNumber);
        check.sentence("3: All begins anew with one that has none", TextEdgeTest::beginsAnew);
        check.sentence("3: (no TYPES, VALUES, entries, STORE, VERSES)", TextEdgeTest::nothingStays);
        check.sentence("3: (YEAR and POETS stay)", TextEdgeTest::yearAndPoetsStay);
        check.end();
    }

    private static void due(String call, long got, long want) {
        check.same(call, got, want);
    }

    /** Reads a text on a new object; one with a fault leaves what an earlier text told. */
    private static LinkedVerse read(String text, int want) {
        LinkedVerse x = Check.told("length 7;minutes 77;");
        String shown = text.length() < 60 ? text : ".. " + text.substring(text.length() - 40);
        due("read of <" + shown + ">", Check.read(x, text), want);
        boolean stays = x.count(3) == 7 && x.count(4) == 77;
        due("what an earlier text told stays, by <" + shown + ">", stays ? 1 : 0, want == 0 ? 0 : 1);
        return x;
    }

    private static void read(String ahead, String text, int place, int fault) {
        read(ahead + text, fault == 0 ? 0 : (ahead.length() + place) * 10 + fault);
    }

    private static void all512Calls() {
        LinkedVerse x = new LinkedVerse();
        for (int call = 1; call <= 511; call++) {
            due("feed, call " + call, x.feed(' ', ' ', 0), Math.min(600, call * 2));
        }
        due("call 512", x.count(10), 600);
        LinkedVerse y = new LinkedVerse();
        y.poet(4);
        for (int call = 2; call <= 511; call += 2) {
            due("verse, call " + call, y.verse(0, 1, 2, 3), 1);
            due("back, call " + (call + 1), y.back(), 1);
        }
        due("call 512", y.count(5), 0);
        LinkedVerse z = new LinkedVerse();
        due("call 1", z.type(0), 0);
        for (int call = 2; call <= 511; call++) {
            due("ends, call " + call, z.ends(), 1);
        }
        due("call 512", z.count(12), 37);
        LinkedVerse w = new LinkedVerse();
        w.poet(1);
        w.poet(2);
        for (int call = 3; call <= 512; call++) {
            due("pass, call " + call, w.pass(), call % 2 == 1 ? 1 : 0);
        }
    }

    private static void newWithoutKinds() {
        LinkedVerse x = new LinkedVerse();
        due("count(0)", x.count(0), 0);
        due("entry with kind 0", x.entry(0, 0, 1), -1);
        due("entry without a kind", x.entry(0, 0, 0), 1);
        due("type of kind 0", x.type(1), -1);
        due("like of kind 0", x.like(0, 0, 1), -100);
        due("liking of no kinds", x.liking(0, 0), 0);
        due("groups", x.count(1), 0);
    }

    private static void newWithoutRules() {
        LinkedVerse x = new LinkedVerse();
        due("count(2)", x.count(2), 0);
        due("ruleOf(0, 0)", x.ruleOf(0, 0), -1);
        due("breaks", x.breaks(0, 0, 0), -1);
        due("length", x.count(3), 36);
        due("minutes", x.count(4), 99);
    }

    private static void newWithoutPoets() {
        LinkedVerse x = new LinkedVerse();
        due("count(6)", x.count(6), 0);
        due("poetOf(0, 0)", x.poetOf(0, 0), -1);
        due("turn", x.turn(), -1);
        due("the first has number 0", x.poet(0), 0);
    }

    private static void newWithoutTypes() {
        LinkedVerse x = new LinkedVerse();
        due("count(7)", x.count(7), 0);
        due("no ends() told states", x.count(12), 0);
        due("ends", x.ends(), 0);
        due("the first has number 0", x.type(0), 0);
    }

    private static void newYear() {
        LinkedVerse x = Check.told("kind a;");
        x.entry(0, 0, 1);
        x.entry(1, 1, 1);
        due("word from year 0 on", x.word(0), 1);
        due("word from year 1 on", x.word(1), 0);
    }

    private static void newEmpty() {
        LinkedVerse x = new LinkedVerse();
        due("verses", x.count(5), 0);
        due("entries", x.count(8), 0);
        due("store", x.count(9), 0);
        due("worn ones", x.count(11), 0);
        due("verseOf(1, 1)", x.verseOf(1, 1), -1);
        due("back", x.back(), -1);
        due("worn", x.worn(1, true) ? 1 : 0, 0);
        due("bytes", x.count(10), 0);
        due("read of the empty tape", x.read(), 0);
    }

    private static void upTo24() {
        long eight = 0x2020202020202020L;
        due("none", new LinkedVerse().feed(0, 0, 0), 0);
        due("one", new LinkedVerse().feed(0, 0, 10), 1);
        due("24", new LinkedVerse().feed(eight, eight, eight), 24);
        due("24 of 255", new LinkedVerse().feed(-1, -1, -1), 24);
        due("bytes above 127", new LinkedVerse().feed(Long.MIN_VALUE, 0x80, 0), 2);
        LinkedVerse x = Check.told("");
        x.feed(0x6b696e6420610000L, 0, 0);
        due("behind what there is", x.feed(0x3b00000000000000L, 0, 0), 7);
        due("read of both", x.read(), 0);
    }

    private static void orderOfBytes() {
        LinkedVerse x = new LinkedVerse();
        // "kind a; " "at 1-2 a" "; link; "
        due("three longs", x.feed(0x6b696e6420613b20L, 0x617420312d322061L, 0x3b206c696e6b3b20L), 24);
        due("read", x.read(), 0);
        due("rule 0", x.ruleOf(0, 0), 0);
        due("rule 1", x.ruleOf(1, 0), 7);
        due("second long first", x.feed(0x617420312d322061L, 0x6b696e6420613b20L, 0x3b206c696e6b3b20L), 24);
        due("read", x.read(), 74);
        due("lowest first", x.feed(0x203b6120646e696bL, 0, 0), 8);
        due("read", x.read(), 11);
    }

    private static void zerosLeftOut() {
        LinkedVerse x = new LinkedVerse();
        due("first and last", x.feed(0x006b690000000000L, 0, 0x000000006e006400L), 4);
        due("in the middle", x.feed(0x2000000000000061L, 0, 0x3b), 7);
        due("read", x.read(), 0);
        due("kinds", x.count(0), 1);
        due("all of them", x.feed(0, 0, 0), 0);
        due("48 is none", x.feed(0x3030303030303030L, 0, 0), 8);
    }

    private static LinkedVerse withBytes(int many, String end) {
        LinkedVerse x = new LinkedVerse();
        Check.feed(x, " ".repeat(many - end.length()) + end);
        return x;
    }

    private static void beyond600() {
        LinkedVerse x = withBytes(599, "link");
        due("599", x.count(10), 599);
        due("the 600th of three", x.feed(0x3b20780000000000L, 0, 0), 600);
        due("those beyond", x.feed(-1, -1, -1), 600);
        due("count", x.count(10), 600);
        due("the last ones are left out", x.read(), 0);
        due("what stood there", x.count(2), 1);
        LinkedVerse y = withBytes(576, "");
        due("24 more", y.feed(0x2020202020202020L, 0x2020202020202020L, 0x2020202020202020L), 600);
        LinkedVerse z = withBytes(577, "");
        due("24 more than 577", z.feed(0x2020202020202020L, 0x2020202020202020L, 0x2020202020202020L), 600);
        due("nothing more", z.feed(0, 0, 0), 600);
    }

    private static void textOf600() {
        due("an empty text", new LinkedVerse().read(), 0);
        due("600 with a telling last", withBytes(600, "link;").read(), 0);
        LinkedVerse x = withBytes(600, "link");
        x.feed(';', 0, 0);
        due("the 601st is none of it", x.read(), 6001);
        due("a byte at 599", withBytes(600, "!").read(), 5991);
        for (String cut : new String[] {"kind a;group b=a", "kind a;group b=a,", "kind a", "length 5", "kind", "kind a;at 1-1"}) {
            due("600 with " + cut + " last", withBytes(600, cut).read(), 6001);
        }
        LinkedVerse y = new LinkedVerse();
        Check.feed(y, "kind z;kind y;group x=z" + ",y".repeat(288) + ";");
        due("a group as long as a tape", y.read(), 0);
    }

    private static void tellings() {
        read("", 0);
        read("link;", 0);
        read("link;shift;", 0);
        read("link", 41);
        read("link;shift", 101);
        read(";", 1);
        read("link;;", 51);
    }

    private static void longestTokens() {
        read("linklink;", 1);
        read("kindx;", 1);
        read("kind at;", 51);
        read("kind ata;", 0);
        read("kind a;at1-2a;", 0);
        read("length12;", 0);
        read("length 1 2;", 91);
        read("kind ab;group a=ab;at 1-1 ab;", 0);
    }

    /** Each byte there is, behind a rule's word. */
    private static void blanks() {
        for (int one = 1; one <= 255; one++) {
            boolean isBlank = one == 32 || one == 10;
            boolean isLetter = one >= 'a' && one <= 'z';
            read("link" + (char) one + ";", isBlank ? 0 : isLetter ? 1 : one == ';' ? 51 : 41);
            read((char) one + "link;", isBlank ? 0 : 1);
            read("link;" + (char) one, isBlank ? 0 : 51);
        }
        read(" \n link \n ; \n ", 0);
        read(" \n ", 0);
    }

    private static void letters() {
        read("kind a;kind z;", 0);
        for (int one = 1; one <= 255; one++) {
            boolean isLetter = one >= 'a' && one <= 'z';
            boolean isEnd = one == 32 || one == 10 || one == ';';
            read("kind a" + (char) one + "b;", isLetter ? 0 : isEnd ? 71 : 61);
        }
    }

    private static void digits() {
        for (int one = 1; one <= 255; one++) {
            boolean isDigit = one >= '0' && one <= '9';
            boolean isBlank = one == 32 || one == 10;
            LinkedVerse x = read("length 1" + (char) one + ";", isDigit || isBlank ? 0 : one == ';' ? 91 : 81);
            if (isDigit) {
                due("length", x.count(3), 10 + one - '0');
            }
        }
    }

    private static void signs() {
        read("kind a;kind b;group c=a,b;at 1-2 c;", 0);
        read("kind a", ":", 0, 1);
        read("kind a;group c", "-a;", 0, 1);
        read("kind a;group c", ",a;", 0, 1);
        read("kind a;group c=a", "=a;", 0, 1);
        read("kind a;group c=a", "-a;", 0, 1);
        read("kind a;at 1", "=2 a;", 0, 1);
        read("kind a;at 1", ",2 a;", 0, 1);
        read("kind a;run a 1", ";2;", 0, 1);
        read("kind a;run a 1", "+2;", 0, 1);
    }

    private static void namesOf8() {
        read("kind a;", 0);
        read("kind abcdefgh;", 0);
        read("kind abcdefghi;", 51);
        read("kind zzzzzzzz;", 0);
        read("kind zzzzzzzzz;", 51);
        read("kind ;", 51);
        read("kind abcdefgh;group abcdefgi=abcdefgh;kind bbcdefgh;kind abcdefg;", 0);
        read("kind abcdefgh;group b=abcdefgha;", 221);
        read("kind a;kind aa;kind aaa;kind aaaaaaaa;", 0);
        read("kind " + "a".repeat(595), 51);
    }

    private static void thirteenWords() {
        for (String word : KEYWORDS) {
            read("kind ", word + ";", 0, 1);
            read("kind a;group ", word + "=a;", 0, 1);
            read("kind a;group b=", word + ";", 0, 1);
            read("kind a;group b=a,", word + ";", 0, 1);
            read("kind a;at 1-1 ", word + ";", 0, 1);
            read("kind a;run ", word + " 1-1;", 0, 1);
            String longer = word.length() < 8 ? word + "s" : word.substring(1);
            String shorter = word.substring(0, word.length() - 1);
            read("kind " + longer + ";kind " + shorter + ";group x=" + longer + "," + shorter + ";", 0);
            read(longer + ";", 1);
            read(shorter + ";", 1);
        }
    }

    private static void numbersOf3() {
        due("1 digit", read("length 5;", 0).count(3), 5);
        due("2 digits", read("length 05;", 0).count(3), 5);
        due("3 digits", read("length 005;", 0).count(3), 5);
        read("length 0005;", 71);
        read("length 1000;", 71);
        read("length 999;", 75);
        read("length 000;", 75);
        read("length ;", 71);
        read("length " + "0".repeat(593), 71);
        read("length 4294967297;", 71);
    }

    private static void firstFourAreNoRules() {
        LinkedVerse x = read("kind a;group b=a;length 3;minutes 4;", 0);
        due("rules", x.count(2), 0);
        read("link;".repeat(12) + "kind a;group b=a;length 3;minutes 4;", 0);
        LinkedVerse y = read("link;kind a;group b=a;length 3;minutes 4;shift;", 0);
        due("rules", y.count(2), 2);
        due("the second of them", y.ruleOf(1, 0), 8);
    }

    private static void kinds8() {
        LinkedVerse x = read(Rooms.kinds(8) + "at 1-1 a;at 1-1 b;at 1-1 h;", 0);
        due("kinds", x.count(0), 8);
        due("the first is 0", x.ruleOf(0, 1), 1);
        due("the second is 1", x.ruleOf(1, 1), 2);
        due("the last is 7", x.ruleOf(2, 1), 128);
        read(Rooms.kinds(8) + "kind i;", 562);
        due("none", read("", 0).count(0), 0);
        due("seven", read(Rooms.kinds(7), 0).count(0), 7);
    }

    private static String groups(int many) {
        StringBuilder text = new StringBuilder("kind a;");
        for (int i = 0; i < many; i++) {
            text.append("group x").append((char) ('a' + i)).append("=a;");
        }
        return text.toString();
    }

    private static void groups8() {
        due("none", read("kind a;", 0).count(1), 0);
        due("eight", read(groups(8), 0).count(1), 8);
        read(groups(9), groups(8).length() * 10 + 2);
        LinkedVerse x = read(groups(8) + Rooms.kinds(8).substring(7) + "at 1-1 xh;at 1-1 h;", 0);
        due("eight kinds beside them", x.count(0), 8);
        due("the kinds of the eighth", x.ruleOf(0, 1), 1);
        due("the last of sixteen names", x.ruleOf(1, 1), 128);
        LinkedVerse y = read(Rooms.kinds(8) + groups(8).substring(7) + "at 1-1 xh;", 0);
        due("the last of sixteen names, a group's", y.ruleOf(0, 1), 1);
    }

    private static void groupNames() {
        LinkedVerse x = read(Rooms.kinds(8) + "group x=c;group y=x,h;group z=a,b,c,d,e,f,g,h;group w=z,y,a,a;"
            + "at 1-1 x;at 1-1 y;at 1-1 z;at 1-1 w;", 0);
        int[] due = {4, 132, 255, 255};
        for (int rule = 0; rule < 4; rule++) {
            due("kinds of rule " + rule, x.ruleOf(rule, 1), due[rule]);
        }
    }

    private static void lengths() {
        due("at first", read("link;", 0).count(3), 36);
        due("1", read("length 1;", 0).count(3), 1);
        due("48", read("length 48;", 0).count(3), 48);
        read("length 0;", 75);
        read("length 49;", 75);
        due("the latest told", read("length 9;length 8;", 0).count(3), 8);
        LinkedVerse x = Check.told("length 5;");
        due("36 again with a text that tells none", Check.read(x, "link;"), 0);
        due("length", x.count(3), 36);
    }

    private static void minutes() {
        due("at first", read("link;", 0).count(4), 99);
        due("1", read("minutes 1;", 0).count(4), 1);
        due("99", read("minutes 99;", 0).count(4), 99);
        read("minutes 0;", 85);
        read("minutes 100;", 85);
        due("the latest told", read("minutes 9;minutes 8;", 0).count(4), 8);
        LinkedVerse x = Check.told("minutes 5;");
        due("99 again with a text that tells none", Check.read(x, "link;"), 0);
        due("minutes", x.count(4), 99);
    }

    private static void rules12() {
        LinkedVerse x = read("again 1;again 2;again 3;again 4;again 5;again 6;again 7;again 8;again 9;link;shift;again 9;", 0);
        due("rules", x.count(2), 12);
        for (int rule = 0; rule < 9; rule++) {
            due("number of rule " + rule, x.ruleOf(rule, 2), rule + 1);
        }
        due("sort of the last", x.ruleOf(11, 0), 6);
        due("no 13th", x.ruleOf(12, 0), -1);
        read("link;".repeat(13), 602);
    }

    private static void firstByPlace() {
        read("length 0;minutes 0;", 75);
        read("kind a;kind a;!", 123);
        read("kind a;at 0-49 b;", 105);
        read("kind a;at 5-4 b;", 125);
        read("kind a;run b 0-0;", 114);
        read("group b=c,d;", 84);
        read("kind a;kind a", 123);
        read(Rooms.kinds(8) + "!kind i;", 561);
        read("length 49", 75);
    }

    private static void faultAtEnd() {
        String[] cuts = {
            "kind", "kind a", "group", "group b", "kind a;group b=", "kind a;group b=a", "kind a;group b=a,", "length", "length 5",
            "minutes", "minutes 5", "kind a;at", "kind a;at 1", "kind a;at 1-", "kind a;at 1-1", "kind a;at 1-1 a", "kind a;run",
            "kind a;run a", "kind a;run a 1", "kind a;run a 1-", "kind a;run a 1-1", "kind a;gap a", "kind a;gap a 1", "kind a;most a",
            "kind a;least a 1", "again", "again 1", "link", "shift"};
        for (String cut : cuts) {
            read(cut, cut.length() * 10 + 1);
            read(cut + " \n", (cut.length() + 2) * 10 + 1);
        }
    }

    private static void leastOfOnePlace() {
        read("kind a;at 1-1 ", "notknowns;", 0, 1);
        read("kind a;at 1-1 ", "run;", 0, 1);
        read("kind a;kind ", "kind;", 0, 1);
        read("length ", "0000;", 0, 1);
        read("length ", "4900;", 0, 1);
        read("kind abcdefgh;kind ", "abcdefghi;", 0, 1);
    }

    private static boolean isOfSort(String sort, String token) {
        switch (sort) {
            case "N": return token.equals("1");
            case "NAME": return token.equals("a");
            case "NEW": return token.equals("z") || token.equals("a");
            default: return token.equals(sort);
        }
    }

    /** Every token of every telling, with one of each other sort in its stead. */
    private static void fault1() {
        String[][] tellings = {
            {"kind", "NEW", ";"}, {"group", "NEW", "=", "NAME", ",", "NAME", ";"}, {"length", "N", ";"}, {"minutes", "N", ";"},
            {"at", "N", "-", "N", "NAME", ";"}, {"not", "N", "-", "N", "NAME", ";"}, {"run", "NAME", "N", "-", "N", ";"},
            {"gap", "NAME", "N", ";"}, {"most", "NAME", "N", ";"}, {"least", "NAME", "N", ";"}, {"again", "N", ";"},
            {"link", ";"}, {"shift", ";"}};
        List<String> tokens = List.of("1", "a", ";", "=", ",", "-", "link", "kind", "abcdefghi", "1234", "!", "A", "\t", "");
        for (String[] telling : tellings) {
            StringBuilder ahead = new StringBuilder("kind a; ");
            for (int i = 0; i < telling.length; i++) {
                for (String token : tokens) {
                    boolean isWord = i == 0 && (token.equals("link") || token.equals("kind"));
                    // A list of names may end where another could come.
                    boolean isEnd = telling[i].equals(",") && token.equals(";") || i == 6 && token.equals(",");
                    boolean isEmptyEnd = i == 0 && token.isEmpty();
                    if (!isWord && !isEnd && !isEmptyEnd && !isOfSort(telling[i], token)) {
                        read(ahead.toString(), token, 0, 1);
                    }
                }
                String own = telling[i].equals("N") ? "1" : telling[i].equals("NAME") ? "a" : telling[i].equals("NEW") ? "z" : telling[i];
                ahead.append(own).append(' ');
            }
            read(ahead.toString(), 0);
        }
    }

    private static void fault1TooLong() {
        due("first of all", Check.read(new LinkedVerse(), "abcdefghi;"), 1);
        due("a number first of all", Check.read(new LinkedVerse(), "1234;"), 1);
        read("abcdefghi", 1);
        read("kind a;", "abcdefghi;", 0, 1);
        read("kind ", "abcdefghi;", 0, 1);
        read("kind   ", "abcdefghijklmnopqrstuvwxyz;", 0, 1);
        read("kind a;group b=a, ", "aaaaaaaaa;", 0, 1);
        read("again ", "0001;", 0, 1);
        read("kind a;at 1-", "00001 a;", 0, 1);
        read("kind a;run a 1-", "1111;", 0, 1);
    }

    private static void fault2Kind() {
        read(Rooms.kinds(8), "", 0, 0);
        read(Rooms.kinds(8), "kind i;", 0, 2);
        read(Rooms.kinds(8), " \nkind i;", 2, 2);
        read(Rooms.kinds(8), "kind a;", 0, 2);
        read(Rooms.kinds(8), "kind", 0, 2);
        read(Rooms.kinds(8), "group i=a;", 0, 0);
        read(Rooms.kinds(8), "kinds i;", 0, 1);
    }

    private static void fault2Group() {
        read(groups(8), "", 0, 0);
        read(groups(8), "group y=a;", 0, 2);
        read(groups(8), " \ngroup y=a;", 2, 2);
        read(groups(8), "group a=a;", 0, 2);
        read(groups(8), "kind y;", 0, 0);
    }

    private static void fault2Rule() {
        String twelve = "kind a;" + "link;".repeat(12);
        String eleven = "kind a;" + "link;".repeat(11);
        for (String rule : RULES) {
            read(eleven, rule + ";", 0, 0);
            read(twelve, rule + ";", 0, 2);
            read(twelve, " \n " + rule + ";", 3, 2);
        }
        read(twelve, "length 4;", 0, 0);
        read(twelve, "again 0;", 0, 2);
        read(twelve, "links;", 0, 1);
    }

    private static void fault3() {
        read("kind a;kind ", "a;", 0, 3);
        read("kind a;kind \n", "a;", 0, 3);
        read("kind a;group ", "a=a;", 0, 3);
        read("kind a;group b=a;kind ", "b;", 0, 3);
        read("kind a;group b=a;group ", "b=a;", 0, 3);
        read("kind abcdefgh;kind ", "abcdefgh;", 0, 3);
        read("kind abcdefgh;kind abcdefgi;kind abcdefg;", 0);
        read(Rooms.kinds(7) + "kind g;", 54 * 10 + 3);
        LinkedVerse x = Check.told("kind a;");
        due("told in another text", Check.read(x, "kind a;"), 0);
        due("with a fault", Check.read(x, "kind b;!"), 71);
        due("told in a text with a fault", Check.read(x, "kind b;"), 0);
    }

    private static void fault4() {
        String[] aheads = {"at 1-1 ", "not 1-1 ", "run ", "gap ", "most ", "least ", "group c=", "group c=b,"};
        String[] behinds = {"", "", " 1-1", " 1", " 1", " 1", "", ""};
        for (int i = 0; i < aheads.length; i++) {
            read("kind b;" + aheads[i], "b" + behinds[i] + ";", 0, 0);
            read("kind b;" + aheads[i], "a" + behinds[i] + ";", 0, 4);
            read("kind b;" + aheads[i], "bb" + behinds[i] + ";kind bb;", 0, 4);
            read("kind bbbbbbbb;kind b;" + aheads[i], "bbbbbbb" + behinds[i] + ";", 0, 4);
        }
        read("group c=", "c;", 0, 4);
        LinkedVerse x = Check.told("kind a;group b=a;");
        due("told in another text", Check.read(x, "group b=a;"), 84);
    }

    /** The least and the greatest number that may stand there, and those beside. */
    private static void numbers(String ahead, String behind, int least, int most) {
        for (int number = 0; number <= 110; number++) {
            read(ahead, number + behind, 0, number >= least && number <= most ? 0 : 5);
        }
        read(ahead, "999" + behind, 0, 5);
        read(ahead, "000" + behind, 0, least == 0 ? 0 : 5);
    }

    private static void fault5Length() {
        numbers("length ", ";", 1, 48);
        numbers("minutes ", ";", 1, 99);
    }

    private static void fault5At() {
        for (String word : new String[] {"at ", "not "}) {
            String ahead = "kind a;" + word;
            for (int first = 0; first <= 50; first++) {
                boolean isFirst = first >= 1 && first <= 48;
                read(ahead, first + "-48 a;", 0, isFirst ? 0 : 5);
                for (int second = first - 1; second <= first + 1 && isFirst; second++) {
                    boolean isSecond = second >= first && second <= 48;
                    read(ahead + first + "-", second + " a;", 0, isSecond ? 0 : 5);
                }
            }
            numbers(ahead + "1-", " a;", 1, 48);
            numbers(ahead + "48-", " a;", 48, 48);
            read(ahead, "100-101 a;", 0, 5);
        }
    }

    private static void fault5Run() {
        numbers("kind a;run a 1-", ";", 1, 9);
        numbers("kind a;run a 5-", ";", 5, 9);
        numbers("kind a;run a 9-", ";", 9, 9);
        numbers("kind a;run a ", "-9;", 1, 9);
    }

    private static void fault5GapAgain() {
        numbers("kind a;gap a ", ";", 1, 9);
        numbers("again ", ";", 1, 9);
    }

    private static void fault5Most() {
        numbers("kind a;most a ", ";", 0, 48);
    }

    private static void fault5Least() {
        numbers("kind a;least a ", ";", 1, 48);
    }

    private static void faultChangesNothing() {
        String ahead = "kind z;group y=z;length 9;minutes 8;at 1-1 y;";
        String nineKinds = Rooms.kinds(8) + "kind i;";
        String[] texts = {ahead + "!", ahead + "kind", nineKinds, ahead + "kind z;", ahead + "group y=z;", ahead + "link;at 1-1 a;", ahead + "again 10;"};
        int[] faults = {1, 1, 2, 3, 3, 4, 5};
        for (int i = 0; i < texts.length; i++) {
            LinkedVerse x = Rooms.rich();
            due("the tape's three bytes go", x.read(), 1);
            String before = Rooms.seen(x);
            due("fault of " + texts[i], Check.read(x, texts[i]) % 10, faults[i]);
            check.same("behind a fault", Rooms.seen(x), before);
        }
    }

    private static void tapeIsEmptyThen() {
        LinkedVerse x = new LinkedVerse();
        due("no fault", Check.read(x, "kind a;kind b;"), 0);
        due("empty", x.count(10), 0);
        due("a fault", Check.read(x, "kind"), 41);
        due("empty", x.count(10), 0);
        due("told behind it", x.feed(0x20, 0, 0), 1);
        due("the next text is that alone", x.read(), 0);
        due("it told no kinds", x.count(0), 0);
        Check.read(x, "kind a;");
        due("read of nothing", x.read(), 0);
        due("begins anew, too", x.count(0), 0);
    }

    private static void faultNumber() {
        read("!", 1);
        read(" !", 11);
        read("         !", 91);
        read("          !", 101);
        read(Rooms.kinds(8) + "kind i;", 562);
        due("at 599", withBytes(600, "!").read(), 5991);
        due("at the end of 600", withBytes(600, "link").read(), 6001);
        read("", 0);
    }

    private static void beginsAnew() {
        LinkedVerse x = Rooms.rich();
        x.worn(2, true);
        x.read();
        due("read", Check.read(x, "kind z;kind y;minutes 3;link;"), 0);
        int[] counts = {2, 0, 1, 36, 3, 0, 3, 0, 0, 0, 0, 0, 0};
        for (int what = 0; what < counts.length; what++) {
            due("count(" + what + ")", x.count(what), counts[what]);
        }
        due("rule 0", x.ruleOf(0, 0), 7);
        due("no rule 1", x.ruleOf(1, 0), -1);
        due("passes", x.poetOf(1, 2), 0);
        due("turn", x.turn(), 1);
        due("full", x.full(4), -1);
        due("can", x.can(4), -1);
        due("bestOf", x.bestOf(0), -1);
        due("nothing is worn", x.breaks(0, 1, 2), -1);
        due("no rules any more", Check.read(x, "kind a;length 2;"), 0);
        x.type(0);
        due("no link at the end", x.ends(), 1);
        due("no link by a verse", x.verse(0, 0, -1, -1) + x.verse(0, 0, -1, -1), 3);
    }

    private static void nothingStays() {
        LinkedVerse x = Rooms.rich();
        x.read();
        due("read", Check.read(x, Rooms.kinds(3) + "length 3;link;"), 0);
        due("ends without types", x.ends(), 0);
        due("a type again", x.type(1), 0);
        due("liking", x.liking(1, 2) + x.liking(2, 4) + x.liking(1, 4), 0);
        due("what a value was", x.like(0, 1, 5), 0);
        due("word", x.word(0), 0);
        due("the first entry", x.entry(0, 0, 1), 1);
        due("best of an empty store", x.best(1), -100);
        due("the first of the store", x.store(0, -1, -1), 0);
        due("no verse", x.verseOf(1, 1), -1);
        due("back", x.back(), -1);
        due("the first verse", x.verse(0, 0, -1, -1), 1);
        due("its poet had none", x.poetOf(1, 1), 1);
        due("nor had the others", x.poetOf(0, 1) + x.poetOf(2, 1), 0);
        LinkedVerse y = Rooms.simple("length 48;");
        for (int place = 1; place <= 48; place++) {
            Rooms.tell(y, 1);
        }
        y.worn(1, true);
        y.worn(48, true);
        due("two are worn", y.count(11), 2);
        due("read", Check.read(y, "length 48;"), 0);
        for (int place = 1; place <= 48; place++) {
            due("told on " + place, Rooms.tell(y, 1), place);
            due("not worn on " + place, y.verseOf(place, 5), 0);
        }
    }

    private static void yearAndPoetsStay() {
        LinkedVerse x = Rooms.rich();
        x.read();
        due("read", Check.read(x, Rooms.kinds(3)), 0);
        due("poets", x.count(6), 3);
        due("rank of 0", x.poetOf(0, 0), 7);
        due("rank of 2", x.poetOf(2, 0), 3);
        x.entry(0, 50, 1);
        x.entry(0, 51, 2);
        due("year 50", x.word(0), 1);
        due("a poet more", x.poet(1), 3);
    }
}
