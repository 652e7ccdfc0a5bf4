/** Rooms that many tests begin with, and what can be seen of a room. */
final class Rooms {
    static final int NONE = LinkedVerse.NONE;
    /** Numbers that are too small or too large for every range of the document. */
    static final int[] FAR = {Integer.MIN_VALUE, Integer.MIN_VALUE + 1, -1000000, 1000000, Integer.MAX_VALUE - 1, Integer.MAX_VALUE};

    private Rooms() {
    }

    /** Kinds a, b, c .. */
    static String kinds(int many) {
        StringBuilder text = new StringBuilder();
        for (int i = 0; i < many; i++) {
            text.append("kind ").append((char) ('a' + i)).append(';');
        }
        return text.toString();
    }

    /** Kinds a, b, c, a poet, and words 0 .. 7 of the sets 0 .. 7. */
    static LinkedVerse simple(String text) {
        LinkedVerse x = Check.told(kinds(3) + text);
        x.poet(0);
        for (int set = 0; set < 8; set++) {
            x.entry(set, 0, set);
        }
        return x;
    }

    /** A verse of one word, in no time. */
    static int tell(LinkedVerse x, int word) {
        return x.verse(0, word, NONE, NONE);
    }

    static int breaks(LinkedVerse x, int word) {
        return x.breaks(word, NONE, NONE);
    }

    static LinkedVerse withTypes(String text, int... sets) {
        LinkedVerse x = Check.told(text);
        addTypes(x, sets);
        return x;
    }

    static void addTypes(LinkedVerse x, int... sets) {
        for (int set : sets) {
            x.type(set);
        }
    }

    /** A room with something of all: three verses of five, one poet passed, ends() 1, best(1) 2, a tape of three bytes. */
    static LinkedVerse rich() {
        LinkedVerse x = Check.told(kinds(3) + "group g=a,b;length 5;minutes 20;not 5-5 c;run g 1-4;link;again 1;most c 3;");
        x.poet(7);
        x.poet(3);
        x.poet(3);
        x.year(50);
        int[][] entries = {{0, 0, 1}, {1, 0, 2}, {2, 0, 4}, {3, 0, 3}, {3, 51, 7}, {4, 50, 6}, {5, 0, 5}};
        for (int[] e : entries) {
            x.entry(e[0], e[1], e[2]);
        }
        x.like(0, 1, 2);
        x.like(1, 2, -1);
        x.like(0, 2, 1);
        x.verse(5, 0, NONE, NONE);
        x.verse(20, 3, NONE, 29);
        x.verse(0, 5, NONE, NONE);
        x.pass();
        addTypes(x, 1, 2, 4, 3);
        x.ends();
        x.store(1, NONE, NONE);
        x.store(2, NONE, NONE);
        x.store(4, NONE, NONE);
        x.best(1);
        x.feed(0x6b696e0000000000L, 0, 0);
        return x;
    }

    /** Some 140 answers of the calls that only look. */
    static String seen(LinkedVerse x) {
        StringBuilder all = new StringBuilder("turn ").append(x.turn());
        for (int what = 0; what <= 12; what++) {
            all.append(what == 0 ? " | counts" : "").append(' ').append(x.count(what));
        }
        for (int poet = 0; poet <= 3; poet++) {
            all.append(" | poet");
            for (int what = 0; what <= 2; what++) {
                all.append(' ').append(x.poetOf(poet, what));
            }
        }
        for (int rule = 0; rule <= 5; rule++) {
            all.append(" | rule");
            for (int what = 0; what <= 4; what++) {
                all.append(' ').append(x.ruleOf(rule, what));
            }
        }
        for (int place = 1; place <= 5; place++) {
            all.append(" | verse");
            for (int what = 0; what <= 8; what++) {
                all.append(' ').append(x.verseOf(place, what));
            }
            all.append(" full ").append(x.full(place)).append(" can ").append(x.can(place));
        }
        all.append(" | words");
        for (int word = 0; word < 8; word++) {
            all.append(' ').append(x.word(word));
        }
        all.append(' ').append(x.word(29)).append(" | likings");
        for (int pair = 0; pair < 9; pair++) {
            all.append(' ').append(likingOf(x, pair / 3, pair % 3));
        }
        return all.append(" | best ").append(x.bestOf(0)).append(' ').append(x.bestOf(1)).toString();
    }

    private static String likingOf(LinkedVerse x, int a, int b) {
        return x.count(0) < 3 ? "" : "" + x.liking(1 << a, 1 << b);
    }
}
