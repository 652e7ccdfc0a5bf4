/** The dearest calls, 500 of each on one object: they end in good time and answer alike each time. */
public final class DearTest {
    private static final Check check = new Check();

    public static void main(String[] args) {
        manyEnds();
        manyTries();
        longTexts();
        check.end();
    }

    private static void manyEnds() {
        LinkedVerse x = Check.told("kind a;kind b;kind c;kind d;length 48;least a 1;least b 1;run c 1-9;gap d 1;");
        for (int i = 0; i < 9; i++) {
            x.type(i * 5 % 16);
        }
        int first = x.ends();
        int states = x.count(12);
        System.out.println("ends() " + first + " with " + states + " states");
        for (int i = 0; i < 500; i++) {
            check.same("ends()", x.ends(), first);
            check.same("count(12)", x.count(12), states);
        }
        LinkedVerse y = Check.told("kind a;kind b;kind c;kind d;length 48;at 1-48 a;at 1-48 a;at 1-48 a;at 1-48 a;");
        LinkedVerse z = Check.told("kind a;kind b;kind c;kind d;length 48;");
        for (int i = 0; i < 16; i++) {
            y.type(i);
            z.type(i);
        }
        for (int i = 0; i < 400; i++) {
            check.same("ends() by half of the types", y.ends(), 1);
            check.same("its states", y.count(12), 1 + 8 + 47 * 64);
            check.same("ends() without rules", z.ends(), 1);
            check.same("its states", z.count(12), 1 + 16 + 47 * 256);
            check.same("its last place", z.can(48), 65535);
        }
    }

    private static void manyTries() {
        LinkedVerse x = Check.told("kind a;kind b;kind c;kind d;kind e;kind f;kind g;kind h;group z=a,b,c,d,e,f,g,h;length 48;"
            + "most z 48;most a 48;most b 48;least a 1;least z 48;run z 1-9;again 9;");
        x.poet(0);
        for (int word = 0; word < 30; word++) {
            x.entry(word, 0, 255);
        }
        for (int i = 0; i < 8; i++) {
            x.like(i, i, 9);
        }
        for (int i = 0; i < 20; i++) {
            x.store(i, -1, -1);
        }
        for (int i = 0; i < 5; i++) {
            x.verse(0, 20 + i, -1, -1);
        }
        for (int i = 0; i < 400; i++) {
            check.same("best(3)", x.best(3), 3 * 72);
            check.same("bestOf(2)", x.bestOf(2), 2);
        }
    }

    private static void longTexts() {
        LinkedVerse x = new LinkedVerse();
        long signs = 0x3b203b203b203b20L;
        long letters = 0x7a7a7a7a7a7a7a7aL;
        for (int i = 0; i < 250; i++) {
            for (int k = 0; k < 26; k++) {
                x.feed(letters, letters, letters);
            }
            check.same("read() of a long word", x.read(), 1);
            x.feed(signs, signs, signs);
            check.same("read() of signs", x.read(), 1);
        }
    }
}
