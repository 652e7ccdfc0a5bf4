/** Counts the answers that are not as due, and prints them. */
final class Check {
    private int wrong;
    private int looked;
    private int sentences;
    private String about = "";

    /** Runs the test of one sentence of the document; it looks at one answer at least, and throws nothing. */
    void sentence(String words, Runnable test) {
        int before = looked;
        sentences++;
        about = words + " | ";
        try {
            test.run();
        } catch (RuntimeException e) {
            wrong++;
            System.out.println(about + "threw " + e);
        }
        if (looked == before) {
            wrong++;
            System.out.println(about + "no answer was looked at");
        }
        about = "";
    }

    void same(String call, long got, long due) {
        looked++;
        if (got != due) {
            wrong++;
            if (wrong <= 50) {
                System.out.println(about + call + " answered " + got + ", due is " + due);
            }
        }
    }

    void same(String call, String got, String due) {
        looked++;
        if (!got.equals(due)) {
            wrong++;
            System.out.println(about + call + ":\n  " + got + "\n  due is\n  " + due);
        }
    }

    void same(String call, boolean got, boolean due) {
        same(call, got ? 1 : 0, due ? 1 : 0);
    }

    boolean isClean() {
        return wrong == 0;
    }

    /** Feeds a text whole; answers how many bytes the tape has. */
    static int feed(LinkedVerse x, String text) {
        int size = x.feed(0, 0, 0);
        for (int at = 0; at < text.length(); at += 24) {
            size = x.feed(eight(text, at), eight(text, at + 8), eight(text, at + 16));
        }
        return size;
    }

    private static long eight(String text, int at) {
        long packed = 0;
        for (int i = at; i < at + 8; i++) {
            packed = packed << 8 | (i < text.length() ? text.charAt(i) & 255 : 0);
        }
        return packed;
    }

    static int read(LinkedVerse x, String text) {
        feed(x, text);
        return x.read();
    }

    static LinkedVerse told(String text) {
        LinkedVerse x = new LinkedVerse();
        if (read(x, text) != 0) {
            throw new IllegalStateException("the test's text has a fault: " + text);
        }
        return x;
    }

    void end() {
        String of = sentences == 0 ? "" : " for " + sentences + " sentences";
        System.out.println(looked + " answers looked at" + of + ", " + wrong + " not as due");
        if (wrong != 0 || looked == 0) {
            System.exit(1);
        }
    }
}
