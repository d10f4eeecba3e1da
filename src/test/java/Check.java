/** What the tests share: comparing answers, expecting exceptions, and loading a text. */
final class Check {
    private static int checks = 0;
    private static int wrong = 0;
    private static String about = "";

    private Check() {
    }

    /** Stands before all that is told as wrong from here on. */
    static void about(String subject) {
        about = subject;
    }

    static int count() {
        return checks;
    }

    static void same(String what, long got, long due) {
        checks++;
        if (got != due) {
            wrong++;
            System.out.println(about + what + " answered " + got + ", due is " + due);
        }
    }

    static void same(String what, boolean got, boolean due) {
        same(what, got ? 1 : 0, due ? 1 : 0);
    }

    static void index(String what, Runnable call) {
        raises(what, IndexOutOfBoundsException.class, call);
    }

    static void argument(String what, Runnable call) {
        raises(what, IllegalArgumentException.class, call);
    }

    static void state(String what, Runnable call) {
        raises(what, IllegalStateException.class, call);
    }

    /** The very class is asked for: an exception of the machine is a class below the one that is due. */
    private static void raises(String what, Class<? extends RuntimeException> due, Runnable call) {
        checks++;
        try {
            call.run();
        } catch (RuntimeException e) {
            if (e.getClass() != due) {
                wrong++;
                System.out.println(about + what + " threw " + e + ", due is " + due.getName());
            }
            return;
        }
        wrong++;
        System.out.println(about + what + " threw nothing, due is " + due.getName());
    }

    static void append(CensusWalk walk, String text) {
        for (int at = 0; at < text.length(); at += 20) {
            walk.append(word(text, at), word(text, at + 4), word(text, at + 8), word(text, at + 12), word(text, at + 16));
        }
    }

    /** The bytes behind the end of the text are spaces, which load is not told to read. */
    static int load(CensusWalk walk, String text) {
        append(walk, text);
        return walk.load(text.length());
    }

    static CensusWalk town(String text) {
        CensusWalk walk = new CensusWalk();
        int code = load(walk, text);
        if (code < 0) {
            same("load of " + text + " at " + walk.errorOffset(), code, walk.houseCount());
        }
        return walk;
    }

    /** A town with plans: walker, house, walker, house, and so on. */
    static CensusWalk planned(String text, int... walkersAndHouses) {
        CensusWalk walk = town(text);
        for (int i = 0; i < walkersAndHouses.length; i += 2) {
            walk.plan(walkersAndHouses[i], walkersAndHouses[i + 1]);
        }
        return walk;
    }

    static void right(String text, int houses) {
        CensusWalk walk = new CensusWalk();
        same("load of " + text, load(walk, text), houses);
        same("errorOffset() of " + text, walk.errorOffset(), -1);
    }

    static void wrong(String text, int code, int offset) {
        CensusWalk walk = new CensusWalk();
        same("load of " + text, load(walk, text), code);
        same("errorOffset() of " + text, walk.errorOffset(), offset);
        same("crossings after " + text, walk.crossingCount(), 0);
        same("undo() after " + text, walk.undo(), -1);
    }

    /** The mark ^ stands before the byte at which the error is told, and is not in the text itself. */
    static void wrong(String marked, int code) {
        int offset = marked.indexOf('^');
        wrong(marked.substring(0, offset) + marked.substring(offset + 1), code, offset);
    }

    static void row(CensusWalk walk, int walker, int k, int result, int arrival) {
        same("result(" + walker + ", " + k + ")", walk.result(walker, k), result);
        same("arrival(" + walker + ", " + k + ")", walk.arrival(walker, k), arrival);
    }

    private static int word(String text, int at) {
        int word = 0;
        for (int i = at; i < at + 4; i++) {
            word = word << 8 | (i < text.length() ? text.charAt(i) & 0xFF : ' ');
        }
        return word;
    }

    static void end() {
        System.out.println(checks + " checks, " + wrong + " wrong");
        if (wrong != 0 || checks == 0) {
            System.exit(1);
        }
    }
}
