/** What count tells, promise 26: each number on what is empty, on what is full and behind a refused call. */
public final class CountEdgeTest {
    private static final int NONE = LinkedVerse.NONE;
    private static final Check check = new Check();

    public static void main(String[] args) {
        check.sentence("26: 0 KINDS, 1 GROUPS, 2 RULES", CountEdgeTest::kindsGroupsRules);
        check.sentence("26: 3 LENGTH, 4 MINUTES", CountEdgeTest::lengthAndMinutes);
        check.sentence("26: 5 VERSES", CountEdgeTest::verses);
        check.sentence("26: 6 POETS", CountEdgeTest::poets);
        check.sentence("26: 7 TYPES", CountEdgeTest::types);
        check.sentence("26: 8 entries", CountEdgeTest::entries);
        check.sentence("26: 9 VERSES in the STORE", CountEdgeTest::store);
        check.sentence("26: 10 bytes of the TAPE", CountEdgeTest::bytes);
        check.sentence("26: 11 WORN ones", CountEdgeTest::worn);
        check.sentence("26: NONE for others", CountEdgeTest::others);
        check.sentence("calls that only look change nothing", CountEdgeTest::lookingChangesNothing);
        check.end();
    }

    private static void due(String call, long got, long want) {
        check.same(call, got, want);
    }

    private static void kindsGroupsRules() {
        LinkedVerse x = new LinkedVerse();
        due("none", x.count(0) + x.count(1) + x.count(2), 0);
        StringBuilder text = new StringBuilder(Rooms.kinds(8));
        for (int i = 0; i < 8; i++) {
            text.append("group z").append((char) ('a' + i)).append("=a,h;");
        }
        due("all there can be", Check.read(x, text + "link;".repeat(12)), 0);
        due("kinds", x.count(0), 8);
        due("groups", x.count(1), 8);
        due("rules", x.count(2), 12);
        due("one rule more", Check.read(x, text + "link;".repeat(13)) % 10, 2);
        due("kinds still", x.count(0), 8);
        due("groups still", x.count(1), 8);
        due("rules still", x.count(2), 12);
        due("an empty text", x.read(), 0);
        due("none", x.count(0) + x.count(1) + x.count(2), 0);
    }

    private static void lengthAndMinutes() {
        LinkedVerse x = new LinkedVerse();
        due("length at first", x.count(3), 36);
        due("minutes at first", x.count(4), 99);
        Check.read(x, "length 48;minutes 1;");
        due("length", x.count(3), 48);
        due("minutes", x.count(4), 1);
        Check.read(x, "length 1;minutes 100;");
        due("length still", x.count(3), 48);
        due("minutes still", x.count(4), 1);
        x.read();
        due("length anew", x.count(3), 36);
        due("minutes anew", x.count(4), 99);
    }

    private static void verses() {
        LinkedVerse x = Rooms.simple("length 48;minutes 5;most b 0;");
        due("none", x.count(5), 0);
        for (int place = 1; place <= 48; place++) {
            due("a refused one", Rooms.tell(x, 2), -10);
            due("one too long", x.verse(6, 1, NONE, NONE), -3);
            due("before", x.count(5), place - 1);
            Rooms.tell(x, 1);
            due("told", x.count(5), place);
        }
        due("one more", Rooms.tell(x, 1), -1);
        due("48", x.count(5), 48);
        x.worn(48, true);
        due("worn ones, too", x.count(5), 48);
        x.back();
        due("47", x.count(5), 47);
    }

    private static void poets() {
        LinkedVerse x = new LinkedVerse();
        due("none", x.count(6), 0);
        for (int i = 0; i < 12; i++) {
            x.poet(i);
            x.poet(100);
        }
        due("twelve", x.count(6), 12);
        x.poet(1);
        due("twelve still", x.count(6), 12);
    }

    private static void types() {
        LinkedVerse x = Check.told(Rooms.kinds(5));
        due("none", x.count(7), 0);
        for (int i = 0; i < 16; i++) {
            x.type(i);
            x.type(i);
            x.type(32);
            due("types", x.count(7), i + 1);
        }
        x.type(31);
        due("sixteen", x.count(7), 16);
    }

    private static void entries() {
        LinkedVerse x = Check.told("kind a;");
        due("none", x.count(8), 0);
        for (int i = 0; i < 100; i++) {
            x.entry(3, i, 1);
            x.entry(3, i, 0);
            x.entry(30, i, 0);
            due("entries", x.count(8), i + 1);
        }
        x.entry(4, 0, 1);
        due("a hundred", x.count(8), 100);
    }

    private static void store() {
        LinkedVerse x = new LinkedVerse();
        due("none", x.count(9), 0);
        for (int i = 0; i < 20; i++) {
            x.store(i, NONE, NONE);
            x.store(30, NONE, NONE);
            due("verses", x.count(9), i + 1);
        }
        x.store(1, NONE, NONE);
        due("twenty", x.count(9), 20);
        x.best(3);
        due("twenty still", x.count(9), 20);
    }

    private static void bytes() {
        LinkedVerse x = new LinkedVerse();
        due("none", x.count(10), 0);
        x.feed(0, 0, 0);
        due("none still", x.count(10), 0);
        x.feed(0, 1, 0);
        due("one", x.count(10), 1);
        for (int i = 0; i < 30; i++) {
            x.feed(-1, -1, -1);
        }
        due("600", x.count(10), 600);
        x.read();
        due("none any more", x.count(10), 0);
    }

    private static void worn() {
        LinkedVerse x = Rooms.simple("length 48;");
        due("none", x.count(11), 0);
        x.worn(1, true);
        due("none still", x.count(11), 0);
        for (int place = 1; place <= 48; place++) {
            Rooms.tell(x, 0);
        }
        for (int place = 1; place <= 48; place++) {
            x.worn(place, true);
            x.worn(place, true);
            due("worn", x.count(11), place);
        }
        x.back();
        due("one taken back", x.count(11), 47);
        x.worn(1, false);
        x.worn(1, false);
        due("one not any more", x.count(11), 46);
        Check.read(x, "!");
        due("behind a fault", x.count(11), 46);
        x.read();
        due("anew", x.count(11), 0);
    }

    private static void others() {
        LinkedVerse x = Rooms.rich();
        for (int what = 0; what <= 12; what++) {
            due("count(" + what + ") is told", x.count(what) < 0 ? 1 : 0, 0);
        }
        due("-1", x.count(-1), -1);
        due("13", x.count(13), -1);
        for (int far : Rooms.FAR) {
            due("" + far, x.count(far), -1);
        }
    }

    /** All that Rooms.seen asks, and what else answers without a change. */
    private static void lookingChangesNothing() {
        LinkedVerse x = Rooms.rich();
        String before = Rooms.seen(x);
        check.same("looked at twice", Rooms.seen(x), before);
        x.turn();
        x.breaks(1, 2, 4);
        x.breaks(5, NONE, NONE);
        x.liking(7, 7);
        x.word(30);
        x.feed(0, 0, 0);
        check.same("looked at again", Rooms.seen(x), before);
        String due = "turn 2 | counts 3 1 5 5 20 3 3 4 7 3 3 0 9";
        check.same("the rich room", before.substring(0, due.length()), due);
        due("it ends", x.full(4) * 10 + x.full(5), 20);
        due("its best", x.bestOf(0), 2);
    }
}
