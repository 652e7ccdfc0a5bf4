/** Counts the answers that are not as due, and prints them. */
final class Check {
    private int wrong;
    private int looked;

    void same(String call, long got, long due) {
        looked++;
        if (got != due) {
            wrong++;
            if (wrong <= 50) {
                System.out.println(call + " answered " + got + ", due is " + due);
            }
        }
    }

    void same(String call, boolean got, boolean due) {
        same(call, got ? 1 : 0, due ? 1 : 0);
    }

    boolean isClean() {
        return wrong == 0;
    }

    /** Feeds a text whole; answers how many bytes the tape has. */
    static int feed(LinkedVerse x, String text) {
        int size = x.feed(0, 0, 0);
        for (int at = 0; at < text.length(); at += 24) {
            size = x.feed(eight(text, at), eight(text, at + 8), eight(text, at + 16));
        }
        return size;
    }

    private static long eight(String text, int at) {
        long packed = 0;
        for (int i = at; i < at + 8; i++) {
            packed = packed << 8 | (i < text.length() ? text.charAt(i) & 255 : 0);
        }
        return packed;
    }

    static int read(LinkedVerse x, String text) {
        feed(x, text);
        return x.read();
    }

    static LinkedVerse told(String text) {
        LinkedVerse x = new LinkedVerse();
        if (read(x, text) != 0) {
            throw new IllegalStateException("the test's text has a fault: " + text);
        }
        return x;
    }

    void end() {
        System.out.println(looked + " answers looked at, " + wrong + " not as due");
        if (wrong != 0 || looked == 0) {
            System.exit(1);
        }
    }
}
