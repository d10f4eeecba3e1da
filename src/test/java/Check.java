/** What the tests share: comparing answers, expecting exceptions, and loading a text. */
final class Check {
    private static int checks = 0;
    private static int wrong = 0;

    private Check() {
    }

    static void same(String what, long got, long due) {
        checks++;
        if (got != due) {
            wrong++;
            System.out.println(what + " answered " + got + ", due is " + due);
        }
    }

    static void same(String what, boolean got, boolean due) {
        same(what, got ? 1 : 0, due ? 1 : 0);
    }

    static void index(String what, Runnable call) {
        raises(what, IndexOutOfBoundsException.class, call);
    }

    static void argument(String what, Runnable call) {
        raises(what, IllegalArgumentException.class, call);
    }

    static void state(String what, Runnable call) {
        raises(what, IllegalStateException.class, call);
    }

    /** The very class is asked for: an exception of the machine is a class below the one that is due. */
    private static void raises(String what, Class<? extends RuntimeException> due, Runnable call) {
        checks++;
        try {
            call.run();
        } catch (RuntimeException e) {
            if (e.getClass() != due) {
                wrong++;
                System.out.println(what + " threw " + e + ", due is " + due.getName());
            }
            return;
        }
        wrong++;
        System.out.println(what + " threw nothing, due is " + due.getName());
    }

    static void append(CensusWalk walk, String text) {
        for (int at = 0; at < text.length(); at += 20) {
            walk.append(word(text, at), word(text, at + 4), word(text, at + 8), word(text, at + 12), word(text, at + 16));
        }
    }

    /** The bytes behind the end of the text are spaces, which load is not told to read. */
    static int load(CensusWalk walk, String text) {
        append(walk, text);
        return walk.load(text.length());
    }

    static CensusWalk town(String text) {
        CensusWalk walk = new CensusWalk();
        int code = load(walk, text);
        if (code < 0) {
            same("load of " + text + " at " + walk.errorOffset(), code, walk.houseCount());
        }
        return walk;
    }

    private static int word(String text, int at) {
        int word = 0;
        for (int i = at; i < at + 4; i++) {
            word = word << 8 | (i < text.length() ? text.charAt(i) & 0xFF : ' ');
        }
        return word;
    }

    static void end() {
        System.out.println(checks + " checks, " + wrong + " wrong");
        if (wrong != 0 || checks == 0) {
            System.exit(1);
        }
    }
}
