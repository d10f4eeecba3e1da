/** Promises 1 to 8: a new object, append, load, errorOffset and the counts. */
public final class LoadTest {
    private static final int SYNTAX = CensusWalk.SYNTAX_ERROR;
    private static final int RANGE = CensusWalk.OUT_OF_RANGE;
    private static final int MANY = CensusWalk.TOO_MANY;
    private static final int DEEP = CensusWalk.TOO_DEEP;
    private static final String STREET = "town 2;street 0 1 9;";

    public static void main(String[] args) {
        newObject();
        append();
        buffer();
        replacing();
        errorOffset();
        rightTexts();
        syntaxErrors();
        rangeErrors();
        tooMany();
        tooDeep();
        firstError();
        longestText();
        afterAnotherText();
        Check.end();
    }

    private static void newObject() {
        CensusWalk walk = new CensusWalk();
        Check.same("new crossingCount()", walk.crossingCount(), 0);
        Check.same("new streetCount()", walk.streetCount(), 0);
        Check.same("new houseCount()", walk.houseCount(), 0);
        Check.same("new walkerCount()", walk.walkerCount(), 0);
        Check.same("new errorOffset()", walk.errorOffset(), -1);
        Check.same("new undo()", walk.undo(), -1);
        Check.same("new finishAll()", walk.finishAll(), 0);
        Check.same("new counted()", walk.counted(), 0);
        Check.same("new persons()", walk.persons(), 0);
        Check.same("new checksum()", walk.checksum(), 0);
        Check.same("new division(0)", walk.division(0), 0);
        Check.argument("new load(1)", () -> walk.load(1));
        Check.index("new finish(0)", () -> walk.finish(0));
        Check.index("new calls(0)", () -> walk.calls(0));
        Check.index("new isOpen(0)", () -> walk.isOpen(0));
        Check.index("new distanceFrom(0, 0)", () -> walk.distanceFrom(0, 0));
    }

    private static void append() {
        CensusWalk walk = new CensusWalk();
        // "town 3;" in the byte order of the document
        Check.same("append", walk.append(0x746f776e, 0x20333b20, 0x20202020, 0x20202020, 0x20202020), 20);
        Check.same("load(8)", walk.load(8), 0);
        Check.same("crossingCount()", walk.crossingCount(), 3);
        for (int i = 1; i <= 45; i++) {
            Check.same("append " + i, walk.append(0x20202020, 0x20202020, 0x20202020, 0x20202020, 0x20202020), 20 * i);
        }
        Check.same("append 46", walk.append(0x74747474, 0, 0, 0, 0), -1);
        Check.same("append 47", walk.append(0, 0, 0, 0, 0), -1);
        Check.argument("load(901)", () -> walk.load(901));
        Check.same("load(900)", walk.load(900), SYNTAX);
        Check.same("errorOffset()", walk.errorOffset(), 900);
        Check.same("append after load", walk.append(0, 0, 0, 0, 0), 20);
    }

    private static void buffer() {
        CensusWalk walk = new CensusWalk();
        Check.append(walk, "town 4;");
        Check.argument("load(-1)", () -> walk.load(-1));
        Check.argument("load(21)", () -> walk.load(21));
        Check.argument("load(max)", () -> walk.load(Integer.MAX_VALUE));
        Check.argument("load(min)", () -> walk.load(Integer.MIN_VALUE));
        Check.same("load(20) after throws", walk.load(20), 0);
        Check.same("crossingCount()", walk.crossingCount(), 4);
        Check.argument("the buffer is empty after a load", () -> walk.load(1));
        Check.append(walk, "town x;");
        Check.same("load with an error", walk.load(7), SYNTAX);
        Check.argument("the buffer is empty after an error", () -> walk.load(1));
        Check.append(walk, "town 5;street 0 1 99999;");
        Check.same("only the first bytes are read", walk.load(7), 0);
        Check.same("crossingCount()", walk.crossingCount(), 5);
        Check.same("streetCount()", walk.streetCount(), 0);
        Check.argument("the bytes behind are gone too", () -> walk.load(1));
        Check.same("load(0)", walk.load(0), SYNTAX);
        Check.same("errorOffset() of load(0)", walk.errorOffset(), 0);
    }

    private static void replacing() {
        CensusWalk walk = Check.town("town 3;street 0 1 9;street 1 2 9;house 0 1 0 2 0 1440;house 1 1 0 2 0 9;walker 0 5;walker 1 6;cross 3;gap 7;visit 50;");
        walk.plan(0, 0);
        walk.plan(1, 0);
        walk.setOpen(1, false);
        Check.same("load with an error", Check.load(walk, "town 2;street 0 1 5;walker 0 0;house 0 6 0 0 0 1;"), RANGE);
        Check.same("crossings after an error", walk.crossingCount(), 3);
        Check.same("streets after an error", walk.streetCount(), 2);
        Check.same("houses after an error", walk.houseCount(), 2);
        Check.same("walkers after an error", walk.walkerCount(), 2);
        Check.same("plan after an error", walk.planLength(0), 1);
        Check.same("duration after an error", walk.duration(0, 1), 50);
        Check.same("open after an error", walk.isOpen(1), false);
        Check.same("load", Check.load(walk, "town 4;street 2 3 9;street 1 2 9;house 0 0 0 1 0 1440;house 0 3 1 1 0 1440;house 0 3 1 1 0 1440;walker 2 100;"), 3);
        Check.same("crossings", walk.crossingCount(), 4);
        Check.same("streets", walk.streetCount(), 2);
        Check.same("houses", walk.houseCount(), 3);
        Check.same("walkers", walk.walkerCount(), 1);
        Check.same("plan", walk.planLength(0), 0);
        Check.same("open at first", walk.isOpen(1), true);
        Check.same("crossing time without cross", walk.distance(0, 1), 3);
        Check.same("duration without visit", walk.duration(0, 1), 10);
        Check.same("finish", walk.finish(0), 100);
    }

    private static void errorOffset() {
        CensusWalk walk = new CensusWalk();
        Check.load(walk, "town 2;walker 2 0;");
        Check.same("errorOffset()", walk.errorOffset(), 14);
        Check.append(walk, "town 2;");
        Check.argument("load(30)", () -> walk.load(30));
        Check.same("errorOffset() after a throw", walk.errorOffset(), 14);
        Check.same("load", walk.load(7), 0);
        Check.same("errorOffset() after a right text", walk.errorOffset(), -1);
        Check.load(walk, "x");
        Check.same("errorOffset() of a new error", walk.errorOffset(), 0);
        walk.undo();
        Check.same("errorOffset() after undo", walk.errorOffset(), 0);
    }

    private static void rightTexts() {
        Check.right("town1;", 0);
        Check.right("   town   10   ;   ", 0);
        Check.right("town 010;", 0);
        Check.right("town 00000000000000000000000001;", 0);
        Check.right("town 2;street0 1 1;street 1 0 99;", 0);
        Check.right(STREET + "house 0 0 0 0 0 1;", 1);
        Check.right(STREET + "house 0 9 1 20 1439 1440dog;", 1);
        Check.right(STREET + "house 0 9 1 20 0 1440 dog ;walker 1 1440;walker 0 0;walker 0 0;", 1);
        Check.right(STREET + "cross 0;gap 0;visit 0;", 0);
        Check.right(STREET + "cross 9;gap 600;visit 9999;", 0);
        Check.right("town 2;visit((((1))))+((((2))))*(((persons)-dog)/call);street 0 1 1;", 0);
        Check.right("town 1;visit 1+2-3*4/5;gap 5;cross 5;walker 0 7;", 0);
    }

    private static void syntaxErrors() {
        Check.wrong("", SYNTAX, 0);
        Check.wrong("   ", SYNTAX, 3);
        Check.wrong("tow 1;", SYNTAX, 0);
        Check.wrong("  towns 1;", SYNTAX, 2);
        Check.wrong("Town 1;", SYNTAX, 0);
        Check.wrong(" ;", SYNTAX, 1);
        Check.wrong("5", SYNTAX, 0);
        Check.wrong("town", SYNTAX, 4);
        Check.wrong("town  ", SYNTAX, 6);
        Check.wrong("town 2 ", SYNTAX, 7);
        Check.wrong("town 2 3;", SYNTAX, 7);
        Check.wrong("town -1;", SYNTAX, 5);
        Check.wrong("town two;", SYNTAX, 5);
        Check.wrong("town 2;;", SYNTAX, 7);
        Check.wrong("town 2; ;", SYNTAX, 8);
        Check.wrong("town 2;town 2;", SYNTAX, 7);
        Check.wrong("town 2;dog;", SYNTAX, 7);
        Check.wrong("town 2;\nstreet 0 1 9;", SYNTAX, 7);
        Check.wrong("town\t2;", SYNTAX, 4);
        Check.wrong("town 2\u00a0;", SYNTAX, 6);
        Check.wrong("town 2;\u0000", SYNTAX, 7);
        Check.wrong("town 2;street 0 1 9", SYNTAX, 19);
        Check.wrong("town 2;street 0 1;", SYNTAX, 17);
        Check.wrong("town 2;street 0 1 9 9;", SYNTAX, 20);
        Check.wrong(STREET + "house 0 1 0 0 0;", SYNTAX, 35);
        Check.wrong(STREET + "house 0 1 0 0 0 1 dog dog;", SYNTAX, 42);
        Check.wrong(STREET + "house 0 1 0 0 0 1 dogs;", SYNTAX, 38);
        Check.wrong(STREET + "house 0 1 0 0 0 1 5;", SYNTAX, 38);
        Check.wrong("town 2;walker 0;", SYNTAX, 15);
        Check.wrong("town 2;walker 0 0 dog;", SYNTAX, 18);
        Check.wrong("town 2;cross;", SYNTAX, 12);
        Check.wrong("town 2;cross 1;cross 1;", SYNTAX, 15);
        Check.wrong("town 2;cross 0;gap 1;  cross 10;", SYNTAX, 23);
        Check.wrong("town 2;gap 1;gap 1;", SYNTAX, 13);
        Check.wrong("town 2;visit 1;visit 1;", SYNTAX, 15);
        Check.wrong("town 2;visit ;", SYNTAX, 13);
        Check.wrong("town 2;visit 1", SYNTAX, 14);
        Check.wrong("town 2;visit -1;", SYNTAX, 13);
        Check.wrong("town 2;visit 1+;", SYNTAX, 15);
        Check.wrong("town 2;visit 1 2;", SYNTAX, 15);
        Check.wrong("town 2;visit 1**2;", SYNTAX, 15);
        Check.wrong("town 2;visit ();", SYNTAX, 14);
        Check.wrong("town 2;visit (1;", SYNTAX, 15);
        Check.wrong("town 2;visit 1);", SYNTAX, 14);
        Check.wrong("town 2;visit personsdog;", SYNTAX, 13);
        Check.wrong("town 2;visit 2persons;", SYNTAX, 14);
        Check.wrong("town 2;visit 1%2;", SYNTAX, 14);
        Check.wrong("zown 2;", SYNTAX, 0);
        Check.wrong("townz 2;", SYNTAX, 0);
        Check.wrong("town 2;xtreet 0 1 9;", SYNTAX, 7);
        Check.wrong("town 2;gapz 5;", SYNTAX, 7);
        Check.wrong("town 2;visit calls;", SYNTAX, 13);
        Check.wrong("town 2;visit `;", SYNTAX, 13);
        Check.wrong("town 2;visit dog{;", SYNTAX, 16);
        Check.wrong("town 2;visit 1/:;", SYNTAX, 15);
    }

    private static void rangeErrors() {
        Check.wrong("town 0;", RANGE, 5);
        Check.wrong("town   11;", RANGE, 7);
        Check.wrong("town 99999999999999999999999999999;", RANGE, 5);
        Check.wrong("town 4294967297;", RANGE, 5);
        Check.wrong("town 2;street 2 0 1;", RANGE, 14);
        Check.wrong("town 2;street 0 2 1;", RANGE, 16);
        Check.wrong("town 2;street 1 01 1;", RANGE, 16);
        Check.wrong("town 1;street 0 0 1;", RANGE, 16);
        Check.wrong("town 2;street 0 1 0;", RANGE, 18);
        Check.wrong("town 2;street 0 1 100;", RANGE, 18);
        Check.wrong("town 2;house 0 0 0 0 0 1;street 0 1 9;", RANGE, 13);
        Check.wrong(STREET + "house 1 0 0 0 0 1;", RANGE, 26);
        Check.wrong(STREET + "house 0 10 0 0 0 1;", RANGE, 28);
        Check.wrong(STREET + "house 0 0 2 0 0 1;", RANGE, 30);
        Check.wrong(STREET + "house 0 0 0 21 0 1;", RANGE, 32);
        Check.wrong(STREET + "house 0 0 0 0 1440 1441;", RANGE, 34);
        Check.wrong(STREET + "house 0 0 0 0 1439 1441;", RANGE, 39);
        Check.wrong(STREET + "house 0 0 0 0 7 7;", RANGE, 36);
        Check.wrong(STREET + "house 0 0 0 0 7 6;", RANGE, 36);
        Check.wrong(STREET + "house 0 0 0 0 0 0;", RANGE, 36);
        Check.wrong("town 2;walker 2 0;", RANGE, 14);
        Check.wrong("town 2;walker 1 1441;", RANGE, 16);
        Check.wrong("town 2;cross 10;", RANGE, 13);
        Check.wrong("town 2;gap 601;", RANGE, 11);
        Check.wrong("town 2;visit 10000;", RANGE, 13);
        Check.wrong("town 2;visit 1+2*(3-100000);", RANGE, 20);
    }

    private static void tooMany() {
        String streets = "town 2;" + "street 0 1 9;".repeat(12);
        Check.right(streets, 0);
        Check.wrong(streets + " street 0 1 9;", MANY, streets.length() + 1);
        Check.wrong(streets + "street x", MANY, streets.length());
        Check.wrong(streets + "streets 0 1 9;", SYNTAX, streets.length());
        String houses = STREET + "house 0 1 0 0 0 1;".repeat(16);
        Check.right(houses, 16);
        Check.wrong(houses + "house 0 1 0 0 0 1;", MANY, houses.length());
        Check.wrong(houses + "house 7", MANY, houses.length());
        String walkers = "town 2;" + "walker 0 0;".repeat(3);
        Check.right(walkers, 0);
        Check.wrong(walkers + "  walker 0 0;", MANY, walkers.length() + 2);
        Check.wrong(walkers + "walker", MANY, walkers.length());
    }

    private static void tooDeep() {
        Check.wrong("town 2;visit (((((1)))));", DEEP, 17);
        Check.wrong("town 2;visit ((((", SYNTAX, 17);
        Check.wrong("town 2;visit (((( (x", DEEP, 18);
        Check.wrong("town 2;visit ((((1(", SYNTAX, 18);
        Check.wrong("town 2;visit ((((1))))+1*((((2+(3)))));", DEEP, 31);
    }

    private static void firstError() {
        Check.wrong("town 0;street 0 0 0", RANGE, 5);
        Check.wrong("town 2;walker 9 !", RANGE, 14);
        Check.wrong("town 2;walker 0 ! 9", SYNTAX, 16);
        Check.wrong("town 2;visit 10000 (((((", RANGE, 13);
        Check.wrong("town 2;visit (((((10000", DEEP, 17);
    }

    private static void longestText() {
        String start = "town 2;street 0 1 9;house 0 1 0 3 0 1;visit 1";
        StringBuilder text = new StringBuilder(start);
        while (text.length() < 898) {
            text.append("+1");
        }
        text.append(text.length() == 898 ? " ;" : ";");
        CensusWalk walk = new CensusWalk();
        Check.same("900 bytes", text.length(), 900);
        Check.same("load of 900 bytes", Check.load(walk, text.toString()), 1);
        Check.same("duration", walk.duration(0, 1), 240);
        Check.same("load of 900 bytes more", Check.load(walk, text.toString().replace("+", "-")), 1);
        Check.same("duration", walk.duration(0, 1), 1);
    }

    /** No text leaves anything behind for the next one, neither a right one nor a wrong one. */
    private static void afterAnotherText() {
        String all = STREET + "house 0 0 0 5 0 10;house 0 9 1 5 0 10;house 0 0 1 5 0 10;walker 0 0;cross 4;gap 3;visit 7;";
        String few = STREET + "house 0 0 0 5 0 10;house 0 9 1 5 0 10;house 0 0 1 5 0 10;walker 0 50;";
        CensusWalk walk = Check.town(all);
        Check.same("crossing time", walk.distance(0, 2), 4);
        Check.same("the same text again", Check.load(walk, all), 3);
        Check.same("a wrong text", Check.load(walk, all + "gap 3;"), SYNTAX);
        Check.same("a wrong gap", Check.load(walk, "town 2;gap 700;"), RANGE);
        Check.same("a wrong cross", Check.load(walk, "town 2;visit 9;cross 70;"), RANGE);
        Check.same("without the settings", Check.load(walk, few), 3);
        Check.same("crossing time", walk.distance(0, 2), 0);
        Check.same("duration", walk.duration(0, 1), 10);
        walk.plan(0, 0);
        walk.plan(0, 1);
        walk.plan(0, 0);
        walk.plan(0, 1);
        Check.same("arrival(0, 2)", walk.arrival(0, 2), 70);
        Check.same("gap, refused at 70", walk.result(0, 2), CensusWalk.REFUSED);
        Check.same("the settings again", Check.load(walk, all), 3);
        Check.same("crossing time", walk.distance(0, 2), 4);
        Check.same("duration", walk.duration(0, 1), 7);
    }
}
