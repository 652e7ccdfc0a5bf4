import java.util.NoSuchElementException;
import java.util.Random;

/** Calls with any arguments in any state, far beyond 512 of them: nothing is thrown but by liking. */
public final class WildTest {
    private static final int[] EDGES = {
        Integer.MIN_VALUE, -101, -2, -1, 0, 1, 2, 3, 5, 7, 8, 12, 16, 20, 29, 30, 36, 47, 48, 49, 99, 100, 255, 256,
        9999, 10000, Integer.MAX_VALUE};
    private static final String[] TEXTS = {
        "kind a;kind b;length 48;most a 9;link;", "kind a;length 1;least a 1;", "kind a;kind b;kind c;again 1;shift;length 5;",
        "", "kind", "kind a;group a=a;", "length 5;length 99;", "kind a;kind b;kind c;kind d;kind e;kind f;kind g;kind h;gap a 9;"};

    public static void main(String[] args) {
        Check check = new Check();
        for (int seed = 0; seed < 60; seed++) {
            check.same("seed " + seed + " throws", isThrown(seed), false);
        }
        check.end();
    }

    private static boolean isThrown(int seed) {
        Random random = new Random(seed);
        LinkedVerse x = new LinkedVerse();
        try {
            for (int i = 0; i < 3000; i++) {
                if (random.nextInt(300) == 0) {
                    Check.read(x, TEXTS[random.nextInt(TEXTS.length)]);
                }
                call(x, random.nextInt(25), random);
            }
        } catch (RuntimeException e) {
            e.printStackTrace(System.out);
            return true;
        }
        return false;
    }

    private static int any(Random random) {
        return random.nextInt(3) == 0 ? EDGES[random.nextInt(EDGES.length)] : random.nextInt(9) - 1;
    }

    private static void call(LinkedVerse x, int which, Random random) {
        int a = any(random);
        int b = any(random);
        int c = any(random);
        int d = any(random);
        switch (which) {
            case 0: if (a == 0) { x.feed(random.nextLong(), b, c); } break;
            case 1: if (a < 0) { x.read(); } break;
            case 2: x.poet(a); break;
            case 3: x.turn(); break;
            case 4: x.pass(); break;
            case 5: x.year(a); break;
            case 6: x.entry(a, b, c); break;
            case 7: x.word(a); break;
            case 8: x.like(a, b, c); break;
            case 9: liking(x, a, b); break;
            case 10: x.verse(a, b, c, d); break;
            case 11: x.breaks(a, b, c); break;
            case 12: x.back(); break;
            case 13: x.worn(a, b > 3); break;
            case 14: x.type(a); break;
            case 15: x.ends(); break;
            case 16: x.full(a); break;
            case 17: x.can(a); break;
            case 18: x.store(a, b, c); break;
            case 19: x.best(a); break;
            case 20: x.bestOf(a); break;
            case 21: x.verseOf(a, b); break;
            case 22: x.poetOf(a, b); break;
            case 23: x.ruleOf(a, b); break;
            default: x.count(a); break;
        }
    }

    private static void liking(LinkedVerse x, int a, int b) {
        try {
            x.liking(a, b);
        } catch (NoSuchElementException e) {
            return;
        }
    }
}
