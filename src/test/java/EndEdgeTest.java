/** To the end, promises 16 to 19 and count(12): each sentence that names an edge has a test of its own. */
public final class EndEdgeTest {
    private static final int NONE = LinkedVerse.NONE;
    private static final Check check = new Check();

    public static void main(String[] args) {
        check.sentence("TYPES 0 .., 16 at most", EndEdgeTest::sixteenTypes);
        check.sentence("are unlike SETS", EndEdgeTest::unlikeSets);
        check.sentence("A FULL SHEET has LENGTH SETS", EndEdgeTest::lengthSets);
        check.sentence("on each PLACE of THE SHEET that VERSE's SET, unless it is WORN", EndEdgeTest::toldSets);
        check.sentence("on all others that of a TYPE", EndEdgeTest::othersByType);
        check.sentence("and each is GOOD (again aside)", EndEdgeTest::eachIsGood);
        check.sentence("A STATE behind a PLACE: the SETS of it and of the one ahead", EndEdgeTest::statesOfSets);
        check.sentence("and of each RULE a number", EndEdgeTest::numberOfEachRule);
        check.sentence("of run how many the RUN has that ends there (0: none)", EndEdgeTest::statesOfRun);
        check.sentence("of gap .. (n at most; n, if there was none)", EndEdgeTest::statesOfGap);
        check.sentence("of most how many HAVE it", EndEdgeTest::statesOfMost);
        check.sentence("of least likewise (n at most)", EndEdgeTest::statesOfLeast);
        check.sentence("CROWDED it is if behind some PLACE there are more than 400 unlike STATES", EndEdgeTest::crowded);
        check.sentence("of GOOD rows of SETS up to there", EndEdgeTest::crowdedUpToThere);
        check.sentence("16: NONE: a SET with others than KINDS that there are", EndEdgeTest::typeOfOthers);
        check.sentence("16: there is one such", EndEdgeTest::typeTwice);
        check.sentence("16: 16 are there", EndEdgeTest::typeTooMany);
        check.sentence("17: Whether there is a FULL SHEET: 1, 0", EndEdgeTest::endsOrNot);
        check.sentence("17: -4: it is CROWDED", EndEdgeTest::endsCrowded);
        check.sentence("18: the least on the first PLACE that is not told or is WORN, then on the next such one, ..", EndEdgeTest::firstFull);
        check.sentence("18: of the latest ends()", EndEdgeTest::fullOfLatest);
        check.sentence("18: NONE: it told no 1", EndEdgeTest::fullOfNone);
        check.sentence("18: no such PLACE", EndEdgeTest::fullNoPlace);
        check.sentence("18: or a VERSE stood there", EndEdgeTest::fullWhereVerseStood);
        check.sentence("19: the TYPES that stand on a PLACE in some FULL SHEET, as bits", EndEdgeTest::canAsBits);
        check.sentence("19: NONE likewise", EndEdgeTest::canNone);
        check.sentence("26: 12 STATES in all that the latest ends() laid down (that of no VERSE too)", EndEdgeTest::statesInAll);
        check.sentence("26: (CROWDED: up to the 401st)", EndEdgeTest::statesUpTo401);
        check.end();
    }

    private static void due(String call, long got, long want) {
        check.same(call, got, want);
    }

    private static LinkedVerse types(String text, int... sets) {
        return Rooms.withTypes(text, sets);
    }

    private static void ends(LinkedVerse x, String call, int answer, int states) {
        due(call, x.ends(), answer);
        due("states of " + call, x.count(12), states);
    }

    private static void fulls(LinkedVerse x, String call, int... full) {
        for (int place = 1; place <= full.length; place++) {
            due(call + ", full on " + place, x.full(place), full[place - 1]);
        }
    }

    private static void cans(LinkedVerse x, String call, int... can) {
        for (int place = 1; place <= can.length; place++) {
            due(call + ", can on " + place, x.can(place), can[place - 1]);
        }
    }

    private static void sixteenTypes() {
        LinkedVerse x = Check.told(Rooms.kinds(8));
        for (int i = 0; i < 16; i++) {
            due("type " + i, x.type(255 - i), i);
            due("how many", x.count(7), i + 1);
        }
        due("a 17th", x.type(0), -1);
        due("how many", x.count(7), 16);
        due("the last may stand", x.ends(), 1);
        due("all may", x.can(36), 65535);
    }

    private static void unlikeSets() {
        LinkedVerse x = Check.told(Rooms.kinds(8));
        due("the empty one", x.type(0), 0);
        due("the empty one again", x.type(0), -1);
        due("all kinds", x.type(255), 1);
        due("all kinds again", x.type(255), -1);
        due("all but one", x.type(127), 2);
        due("how many", x.count(7), 3);
    }

    private static void lengthSets() {
        for (int length : new int[] {1, 2, 36, 47, 48}) {
            LinkedVerse x = types(Rooms.kinds(2) + "length " + length + ";at " + length + "-" + length + " b;", 1, 2);
            due("ends of " + length, x.ends(), 1);
            due("the last", x.full(length), 1);
            due("none behind", x.full(length + 1), -1);
            due("the first", x.full(1), length == 1 ? 1 : 0);
            LinkedVerse y = types("kind a;length " + length + ";least a " + length + ";", 1);
            due("as many as length", y.ends(), 1);
            LinkedVerse z = types("kind a;length " + length + ";most a " + (length - 1) + ";", 1);
            due("one fewer than length", z.ends(), 0);
        }
    }

    private static void toldSets() {
        LinkedVerse x = Rooms.simple("length 3;at 2-2 a;shift;");
        Rooms.addTypes(x, 2, 1);
        Rooms.tell(x, 4);
        Rooms.tell(x, 5);
        ends(x, "two told", 1, 1 + 1 + 1 + 2);
        fulls(x, "two told", -1, -1, 0);
        cans(x, "two told", -1, -1, 3);
        x.worn(2, true);
        ends(x, "the second worn", 1, 1 + 1 + 1 + 2);
        fulls(x, "the second worn", -1, 1, 0);
        x.worn(1, true);
        ends(x, "both worn", 1, 1 + 2 + 2 + 2);
        fulls(x, "both worn", 0, 1, 1);
        cans(x, "both worn", 3, 2, 3);
        x.worn(2, false);
        ends(x, "the first worn", 1, 1 + 2 + 2 + 2);
        fulls(x, "the first worn", 0, -1, 1);
        x.worn(1, false);
        due("a third", Rooms.tell(x, 2), 3);
        ends(x, "all told", 1, 4);
        x.worn(3, true);
        ends(x, "the last worn", 1, 1 + 1 + 1 + 2);
    }

    private static void othersByType() {
        LinkedVerse x = Rooms.simple("length 2;");
        ends(x, "no types", 0, 1);
        Rooms.tell(x, 1);
        ends(x, "one told, no types", 0, 2);
        Rooms.tell(x, 1);
        ends(x, "all told, no types", 1, 3);
        x.worn(1, true);
        ends(x, "the first worn, no types", 0, 1);
        x.type(0);
        ends(x, "the first worn, one type", 1, 3);
        x.worn(2, true);
        x.type(7);
        ends(x, "both worn, two types", 1, 1 + 2 + 4);
    }

    private static void eachIsGood() {
        ends(types("kind a;length 2;at 2-2 a;", 0), "at", 0, 2);
        ends(types("kind a;length 2;not 2-2 a;", 1), "not", 0, 2);
        ends(types("kind a;length 2;run a 1-1;", 1), "run", 0, 2);
        ends(types("kind a;length 2;run a 3-3;", 1), "run at length", 0, 2);
        ends(types("kind a;length 3;run a 1-1;gap a 2;", 0, 1), "gap", 1, 1 + 2 + 3 + 3);
        ends(types("kind a;length 2;most a 1;", 1), "most", 0, 2);
        ends(types("kind a;length 2;least a 2;", 0), "least", 0, 1);
        ends(types("kind a;length 2;link;", 0), "link", 0, 2);
        ends(types("kind a;length 3;shift;", 1), "shift", 0, 3);
        ends(types("kind a;length 3;shift;", 0), "shift by none", 1, 4);
        LinkedVerse x = Rooms.simple("length 3;again 9;");
        x.type(1);
        Rooms.tell(x, 1);
        ends(x, "again aside", 1, 4);
        LinkedVerse y = Rooms.simple("length 2;link;");
        y.like(0, 1, 1);
        Rooms.tell(y, 1);
        Rooms.tell(y, 2);
        ends(y, "told ones are good", 1, 3);
        y.like(0, 1, 0);
        ends(y, "told ones are not good any more", 0, 2);
    }

    private static void statesOfSets() {
        for (int many = 1; many <= 16; many++) {
            LinkedVerse x = Check.told(Rooms.kinds(4) + "length 4;");
            for (int set = 0; set < many; set++) {
                x.type(set);
            }
            ends(x, many + " types", 1, 1 + many + 3 * many * many);
        }
        ends(types(Rooms.kinds(8) + "length 3;", 255, 127, 128), "of eight kinds", 1, 1 + 3 + 9 + 9);
        String rules = "at 3-3 a;not 4-4 a;again 3;";
        ends(types("kind a;length 4;" + rules, 0, 1), "rules without a number", 1, 1 + 2 + 4 + 2 + 1);
    }

    /** Eleven rules that say the same, and one that says something else, in each order. */
    private static String twelve(String one, String others, int where) {
        return others.repeat(where) + one + others.repeat(11 - where);
    }

    private static void numberOfEachRule() {
        for (int where = 0; where < 12; where++) {
            LinkedVerse x = types(Rooms.kinds(2) + "length 6;" + twelve("most a 3;", "least b 1;", where), 1, 2);
            for (int times = 0; times < 2; times++) {
                ends(x, "most as rule " + where, 1, 1 + 2 + 4 + 8 + 11 + 12 + 12);
                fulls(x, "most as rule " + where, 0, 0, 0, 1, 1, 1);
            }
            LinkedVerse y = types(Rooms.kinds(2) + "length 4;" + twelve("gap a 3;", "least b 1;", where), 2, 1);
            // Behind 3 all rows but aba are good, and aab and bab end alike; behind 4 none is all of a.
            ends(y, "gap as rule " + where, 1, 1 + 2 + 4 + 6 + 5);
            cans(y, "gap as rule " + where, 3, 3, 3, 3);
            LinkedVerse z = types(Rooms.kinds(2) + "length 4;" + twelve("run a 1-2;", "gap b 1;", where), 1, 2);
            ends(z, "run as rule " + where, 1, 1 + 2 + 4 + 4 + 4);
            fulls(z, "run as rule " + where, 0, 0, 1, 0);
            LinkedVerse w = types(Rooms.kinds(2) + "length 3;" + twelve("least a 3;", "most b 48;", where), 2, 1);
            ends(w, "least as rule " + where, 1, 4);
            fulls(w, "least as rule " + where, 1, 1, 1);
            LinkedVerse v = types(Rooms.kinds(2) + "length 3;" + twelve("at 2-2 a;", "most b 1;", where), 2, 1);
            ends(v, "at as rule " + where, 1, 1 + 2 + 2 + 3);
            fulls(v, "at as rule " + where, 0, 1, 1);
            LinkedVerse u = types(Rooms.kinds(2) + "length 48;" + twelve("most a 47;", "gap b 1;", where), 1, 0);
            ends(u, "a number of 47 as rule " + where, 1, 1 + 2 + 4 * (47 * 48 / 2) - 1);
            due("the 47th with a", u.full(47), 0);
            due("no 48th", u.full(48), 1);
        }
    }

    private static void statesOfRun() {
        // Behind p: ending in none two, and by each length of a run up to 9 and p.
        ends(types("kind a;length 12;run a 1-9;", 0, 1), "up to 9", 1, 1 + 2 + 4 + 5 + 6 + 7 + 8 + 9 + 10 + 11 + 11 + 11 + 11);
        ends(types("kind a;length 4;run a 1-1;", 0, 1), "1 alone", 1, 1 + 2 + 3 + 3 + 3);
        // Behind 4 a run of one is not good, and behind 3 and 4 it ends with two or three.
        ends(types("kind a;length 4;run a 2-3;", 0, 1), "2 or 3", 1, 1 + 2 + 3 + 5 + 4);
        ends(types("kind a;length 1;run a 2-3;", 0, 1), "length 1", 1, 2);
    }

    private static void statesOfGap() {
        ends(types("kind a;length 5;gap a 3;", 0, 1), "gap 3", 1, 1 + 2 + 4 + 5 + 5 + 5);
        ends(types("kind a;length 5;gap a 1;", 0, 1), "gap 1", 1, 1 + 2 + 4 + 4 + 4 + 4);
        ends(types("kind a;length 12;gap a 9;", 0, 1), "gap 9", 1, 1 + 2 + 4 + 5 + 6 + 7 + 8 + 9 + 10 + 11 + 11 + 11 + 11);
        ends(types("kind a;length 5;gap a 9;", 0), "none at all", 1, 6);
        ends(types("kind a;length 5;gap a 9;", 1), "all", 1, 6);
    }

    private static void statesOfMost() {
        ends(types("kind a;length 6;most a 3;", 0, 1), "most 3", 1, 1 + 2 + 4 + 8 + 11 + 12 + 12);
        ends(types("kind a;length 6;most a 0;", 0, 1), "most 0", 1, 7);
        ends(types("kind a;length 6;most a 1;", 0, 1), "most 1", 1, 1 + 2 + 3 + 4 + 4 + 4 + 4);
        ends(types("kind a;length 48;most a 48;", 0, 1), "most 48", 1, 1 + 2 + 4 * (47 * 48 / 2));
        ends(types("kind a;length 48;most a 48;", 1), "48 of them", 1, 49);
        ends(types("kind a;length 48;most a 47;", 1), "48 and most 47", 0, 48);
    }

    private static void statesOfLeast() {
        ends(types("kind a;length 5;least a 2;", 0, 1), "least 2", 1, 1 + 2 + 4 + 7 + 7 + 4);
        ends(types("kind a;length 5;least a 1;", 0, 1), "least 1", 1, 1 + 2 + 4 + 5 + 5 + 4);
        ends(types("kind a;length 5;least a 5;", 0, 1), "least 5", 1, 6);
        ends(types("kind a;length 5;least a 6;", 0, 1), "least 6", 0, 1);
        ends(types("kind a;length 48;least a 48;", 0, 1), "least 48", 1, 49);
    }

    /** Fifteen types, seven of which have a: 401 states behind place 3. */
    private static LinkedVerse of401(String text) {
        return types(Rooms.kinds(5) + "most a 2;" + text, 0, 1, 2, 3, 4, 5, 6, 7, 8, 9, 10, 11, 12, 13, 14);
    }

    /** Ten types, five of which have a: 400 states behind place 5. */
    private static LinkedVerse of400(String text) {
        return types(Rooms.kinds(5) + "most a 48;" + text, 0, 1, 2, 3, 4, 5, 6, 7, 8, 9);
    }

    private static void crowded() {
        ends(of400("length 5;"), "400 behind the last place", 1, 1 + 10 + 100 + 200 + 300 + 400);
        ends(of400("length 6;"), "500 behind the next", -4, 1 + 10 + 100 + 200 + 300 + 400 + 401);
        ends(of401("length 2;"), "225 behind the last place", 1, 1 + 15 + 225);
        ends(of401("length 3;"), "401 behind the last place", -4, 1 + 15 + 225 + 401);
        ends(of401("length 4;"), "401 behind one ahead of it", -4, 1 + 15 + 225 + 401);
        ends(of401("length 48;"), "401 behind the third of 48", -4, 1 + 15 + 225 + 401);
        LinkedVerse x = of400("length 48;");
        tellEmpty(x, 43);
        ends(x, "400 behind place 48", 1, 1 + 43 + 10 + 100 + 200 + 300 + 400);
        for (int place = 44; place <= 48; place++) {
            due("the first of ten on " + place, x.full(place), 0);
            due("all ten on " + place, x.can(place), 1023);
        }
        x.back();
        ends(x, "500 behind place 48", -4, 1 + 42 + 10 + 100 + 200 + 300 + 400 + 401);
        LinkedVerse y = of400("length 48;at 48-48 d;");
        tellEmpty(y, 42);
        ends(y, "400 behind place 47", 1, 1 + 42 + 10 + 100 + 200 + 300 + 400 + 2 * 10 * 5);
        due("the first with d", y.full(48), 8);
        due("those with d", y.can(48), 768);
        due("all ten ahead", y.can(47), 1023);
        last400th();
    }

    /** Only the row without a, which is laid down last, leads from the 400 states behind place 5 to the end. */
    private static void last400th() {
        LinkedVerse x = types(Rooms.kinds(5) + "length 10;most a 5;at 6-10 a;", 1, 3, 5, 7, 9, 11, 13, 15, 17, 2);
        ends(x, "the 400th leads to the end", 1, 1 + 10 + 100 + 200 + 300 + 400 + 369 + 324 + 243 + 162 + 81);
        fulls(x, "the 400th leads to the end", 9, 9, 9, 9, 9, 0, 0, 0, 0, 0);
        cans(x, "the 400th leads to the end", 512, 512, 512, 512, 512, 511, 511, 511, 511, 511);
    }

    private static void tellEmpty(LinkedVerse x, int many) {
        x.poet(0);
        for (int place = 1; place <= many; place++) {
            Rooms.tell(x, NONE);
        }
    }

    private static void crowdedUpToThere() {
        ends(of401("length 4;at 4-4 e;"), "crowded, and none could be full", -4, 1 + 15 + 225 + 401);
        ends(of401("length 4;at 3-3 e;"), "none is good on the third", 0, 1 + 15 + 225);
        ends(of401("length 4;at 1-1 e;"), "none is good on the first", 0, 1);
        ends(of400("length 5;at 5-5 e;"), "none is good on the fifth", 0, 1 + 10 + 100 + 200 + 300);
        LinkedVerse x = of401("length 4;");
        x.poet(0);
        x.entry(0, 0, 1);
        Rooms.tell(x, 0);
        // The first has a; of the others one more may.
        ends(x, "one told", 1, 1 + 1 + 15 + (225 - 49) + 8 * 8 * 2 + 2 * 7 * 8);
        x.worn(1, true);
        ends(x, "it is worn", -4, 1 + 15 + 225 + 401);
        x.back();
        ends(x, "it is taken back", -4, 1 + 15 + 225 + 401);
    }

    private static void refused(String call, int set) {
        LinkedVerse x = Rooms.rich();
        String before = Rooms.seen(x);
        due(call, x.type(set), -1);
        check.same("behind it", Rooms.seen(x), before);
        due("the next", x.type(7), 4);
    }

    private static void typeOfOthers() {
        for (int kinds = 0; kinds <= 8; kinds++) {
            LinkedVerse x = Check.told(Rooms.kinds(kinds));
            due("one more than " + kinds, x.type(1 << kinds), -1);
            due("one more beside", x.type((2 << kinds) - 1), -1);
            due("all of them", x.type((1 << kinds) - 1), 0);
        }
        refused("a fourth kind", 8);
        refused("a fourth beside", 15);
        refused("-1", -1);
        for (int far : Rooms.FAR) {
            refused("" + far, far);
        }
    }

    private static void typeTwice() {
        refused("the first again", 1);
        refused("the last again", 3);
        LinkedVerse x = Check.told(Rooms.kinds(8));
        for (int i = 0; i < 16; i++) {
            x.type(i);
        }
        due("one of sixteen again", x.type(15), -1);
        due("how many", x.count(7), 16);
    }

    private static void typeTooMany() {
        LinkedVerse x = Check.told(Rooms.kinds(8) + "length 1;at 1-1 h;");
        for (int i = 0; i < 15; i++) {
            x.type(i);
        }
        due("one with others at fifteen", x.type(256), -1);
        due("one of them at fifteen", x.type(3), -1);
        due("the 16th", x.type(127), 15);
        due("a 17th", x.type(128), -1);
        due("it is not there", x.ends(), 0);
        Check.read(x, Rooms.kinds(8));
        due("behind a text there is room", x.type(128), 0);
    }

    private static void endsOrNot() {
        due("an object without types", new LinkedVerse().ends(), 0);
        LinkedVerse x = types("length 1;", 0);
        due("one place, one type", x.ends(), 1);
        due("again", x.ends(), 1);
        LinkedVerse y = types("kind a;length 48;at 48-48 a;", 0);
        due("none on the last place", y.ends(), 0);
        y.type(1);
        due("with a type more", y.ends(), 1);
        LinkedVerse z = Rooms.simple("length 1;");
        Rooms.tell(z, 1);
        due("all are told", z.ends(), 1);
        due("without poets and words", types("kind a;length 3;link;", 1).ends(), 1);
        String before = Rooms.seen(Rooms.rich());
        LinkedVerse w = Rooms.rich();
        due("the same again", w.ends(), 1);
        check.same("changes nothing", Rooms.seen(w), before);
    }

    private static void endsCrowded() {
        LinkedVerse x = of401("length 3;");
        due("crowded", x.ends(), -4);
        due("again", x.ends(), -4);
        due("full", x.full(1), -1);
        due("can", x.can(3), -1);
        due("another text", Check.read(x, Rooms.kinds(4) + "length 3;"), 0);
        due("no types", x.ends(), 0);
        x.type(3);
        due("not crowded", x.ends(), 1);
        due("states", x.count(12), 4);
    }

    private static void firstFull() {
        LinkedVerse x = types(Rooms.kinds(3) + "length 4;most a 2;least b 2;", 1, 2, 3, 4);
        due("ends", x.ends(), 1);
        fulls(x, "the least of each from the first on", 0, 0, 1, 1);
        LinkedVerse y = types(Rooms.kinds(3) + "length 3;link;shift;not 1-1 a;", 1, 2, 4, 3, 6);
        due("ends", y.ends(), 1);
        fulls(y, "linked and shifted", 1, 3, 0);
        LinkedVerse z = Rooms.simple("length 4;run b 1-1;least b 2;most b 2;");
        Rooms.addTypes(z, 1, 2);
        Rooms.tell(z, 2);
        Rooms.tell(z, 1);
        due("told", z.ends(), 1);
        fulls(z, "told", -1, -1, 0, 1);
        z.worn(1, true);
        due("the first worn", z.ends(), 1);
        fulls(z, "the first worn", 1, -1, 0, 1);
        z.worn(1, false);
        z.worn(2, true);
        due("the second worn", z.ends(), 1);
        fulls(z, "the second worn", -1, 0, 0, 1);
        z.worn(1, true);
        due("both worn", z.ends(), 1);
        fulls(z, "both worn", 0, 1, 0, 1);
        LinkedVerse w = Check.told(Rooms.kinds(4) + "length 1;at 1-1 a;at 1-1 b;at 1-1 c;at 1-1 d;");
        for (int set = 0; set < 16; set++) {
            w.type(set);
        }
        due("the last type alone", w.ends(), 1);
        fulls(w, "the last type alone", 15);
    }

    private static void fullOfLatest() {
        LinkedVerse x = Rooms.simple("length 2;");
        x.type(1);
        due("before any", x.full(1), -1);
        due("ends", x.ends(), 1);
        Rooms.tell(x, 2);
        due("told since", x.full(1), 0);
        x.type(2);
        x.worn(1, true);
        due("worn since", x.can(1), 1);
        x.worn(1, false);
        due("ends anew", x.ends(), 1);
        due("a verse stood", x.full(1), -1);
        x.back();
        due("taken back since", x.full(1), -1);
        due("the second", x.can(2), 3);
        due("ends anew", x.ends(), 1);
        due("no verse stood", x.can(1), 3);
        due("a text with a fault", Check.read(x, "!"), 1);
        due("changes nothing", x.can(1), 3);
        nothingOfEarlierOnes();
    }

    private static void nothingOfEarlierOnes() {
        LinkedVerse x = types("kind a;length 3;run a 2-2;at 3-3 a;", 1, 0);
        due("two on the second lead nowhere", x.ends(), 1);
        cans(x, "the last two", 2, 1, 1);
        Check.read(x, "kind a;length 2;run a 2-2;");
        Rooms.addTypes(x, 1, 0);
        due("they are the end now", x.ends(), 1);
        fulls(x, "the end now", 0, 0);
        cans(x, "the end now", 3, 3);
        Check.read(x, "kind a;length 3;at 3-3 a;most a 1;");
        Rooms.addTypes(x, 0, 1);
        due("one on the second leads nowhere", x.ends(), 1);
        cans(x, "the last alone", 1, 1, 2);
        Check.read(x, "kind a;length 2;least a 1;most a 1;");
        Rooms.addTypes(x, 0, 1);
        due("either is the end now", x.ends(), 1);
        cans(x, "either", 3, 3);
        LinkedVerse y = Rooms.simple("length 2;link;");
        Rooms.addTypes(y, 1, 2);
        due("all free", y.ends(), 1);
        cans(y, "all free", 3, 3);
        Rooms.tell(y, 1);
        Rooms.tell(y, 1);
        y.worn(1, true);
        due("the second told", y.ends(), 1);
        cans(y, "the second told", 1, -1);
        fulls(y, "the second told", 0, -1);
    }

    private static void fullOfNone() {
        due("a new object", new LinkedVerse().full(1), -1);
        LinkedVerse x = types("kind a;length 2;at 2-2 a;", 1);
        x.ends();
        due("1", x.full(1), 0);
        x.poet(0);
        x.verse(0, NONE, NONE, NONE);
        x.worn(1, true);
        due("still one", x.ends(), 1);
        x.worn(1, false);
        due("still one", x.ends(), 1);
        due("on place 2", x.full(2), 0);
        LinkedVerse y = Rooms.simple("length 3;link;");
        y.type(1);
        due("1", y.ends(), 1);
        Rooms.tell(y, 2);
        due("0", y.ends(), 0);
        for (int place = 1; place <= 3; place++) {
            due("full by 0", y.full(place), -1);
            due("can by 0", y.can(place), -1);
        }
        LinkedVerse z = of401("length 3;");
        z.ends();
        due("full by -4", z.full(1), -1);
    }

    private static void fullNoPlace() {
        for (int length : new int[] {1, 2, 47, 48}) {
            LinkedVerse x = types("length 48;", 0);
            x.ends();
            Check.read(x, "length " + length + ";");
            x.type(0);
            x.ends();
            due("the last of " + length, x.full(length), 0);
            due("one more than " + length, x.full(length + 1), -1);
            due("0", x.full(0), -1);
            due("-1", x.full(-1), -1);
            for (int far : Rooms.FAR) {
                due("" + far, x.full(far), -1);
            }
        }
    }

    private static void fullWhereVerseStood() {
        LinkedVerse x = Rooms.simple("length 3;");
        Rooms.addTypes(x, 0, 1);
        Rooms.tell(x, 0);
        Rooms.tell(x, 0);
        Rooms.tell(x, 0);
        due("all told", x.ends(), 1);
        fulls(x, "all told", -1, -1, -1);
        x.worn(2, true);
        due("one worn", x.ends(), 1);
        fulls(x, "one worn", -1, 0, -1);
        cans(x, "one worn", -1, 3, -1);
        x.worn(1, true);
        x.worn(3, true);
        due("all worn", x.ends(), 1);
        fulls(x, "all worn", 0, 0, 0);
        x.back();
        x.worn(2, false);
        due("a verse stands on 2", x.ends(), 1);
        fulls(x, "a verse stands on 2", 0, -1, 0);
    }

    private static void canAsBits() {
        LinkedVerse x = types(Rooms.kinds(2) + "length 3;run a 2-2;at 3-3 a;", 1, 2, 3, 0);
        due("ends", x.ends(), 1);
        cans(x, "the last two by a", 10, 5, 5);
        LinkedVerse y = types("kind a;length 1;", 0);
        due("ends", y.ends(), 1);
        cans(y, "one type", 1);
        LinkedVerse z = Check.told(Rooms.kinds(4) + "length 2;not 1-1 a;at 2-2 a;at 2-2 b;at 2-2 c;at 2-2 d;");
        for (int set = 0; set < 16; set++) {
            z.type(set);
        }
        due("ends", z.ends(), 1);
        cans(z, "every other, and the last", 0x5555, 0x8000);
        LinkedVerse v = Check.told(Rooms.kinds(4) + "length 2;link;");
        for (int set = 0; set < 16; set++) {
            v.type(set);
        }
        due("ends", v.ends(), 1);
        cans(v, "all sixteen but the empty one", 0xfffe, 0xfffe);
        LinkedVerse w = types("kind a;length 4;least a 2;most a 2;run a 2-2;", 0, 1);
        due("ends", w.ends(), 1);
        cans(w, "two side by side", 3, 3, 3, 3);
        w = types("kind a;length 3;least a 2;most a 2;run a 2-2;", 0, 1);
        due("ends", w.ends(), 1);
        cans(w, "two of three side by side", 3, 2, 3);
        fulls(w, "two of three side by side", 0, 1, 1);
    }

    private static void canNone() {
        due("a new object", new LinkedVerse().can(1), -1);
        for (int length : new int[] {1, 47, 48}) {
            LinkedVerse x = types("length 48;", 0);
            x.ends();
            Check.read(x, "length " + length + ";");
            x.type(0);
            due("before ends()", x.can(1), -1);
            x.ends();
            due("the last of " + length, x.can(length), 1);
            due("one more", x.can(length + 1), -1);
            due("0", x.can(0), -1);
            for (int far : Rooms.FAR) {
                due("" + far, x.can(far), -1);
            }
        }
        LinkedVerse y = types("kind a;length 2;at 2-2 a;", 0);
        y.ends();
        due("by 0", y.can(1), -1);
        LinkedVerse z = of401("length 3;");
        z.ends();
        due("by -4", z.can(1), -1);
        LinkedVerse w = Rooms.simple("length 2;");
        w.type(0);
        Rooms.tell(w, 0);
        w.ends();
        due("a verse stood", w.can(1), -1);
        due("none stood", w.can(2), 1);
    }

    private static void statesInAll() {
        due("before any ends()", new LinkedVerse().count(12), 0);
        LinkedVerse x = Check.told("kind a;length 2;");
        ends(x, "that of no verse", 0, 1);
        x.type(0);
        ends(x, "one type", 1, 3);
        x.type(1);
        due("of the latest", x.count(12), 3);
        ends(x, "two types", 1, 1 + 2 + 4);
        due("of the latest", x.count(12), 7);
        Check.read(x, "!");
        due("behind a fault", x.count(12), 7);
        Check.read(x, "kind a;");
        due("behind a text", x.count(12), 0);
        LinkedVerse y = types("kind a;length 3;at 3-3 a;", 0);
        ends(y, "none on the last", 0, 3);
    }

    private static void statesUpTo401() {
        LinkedVerse x = of401("length 3;");
        ends(x, "401 of 401", -4, 642);
        LinkedVerse y = Check.told(Rooms.kinds(4) + "length 48;most a 48;least b 9;");
        for (int set = 0; set < 16; set++) {
            y.type(set);
        }
        ends(y, "401 of far more", -4, 1 + 16 + 256 + 401);
        ends(y, "again", -4, 1 + 16 + 256 + 401);
    }
}
