import java.util.List;

/** The boundary cases that the promises name for a new object, the input buffer and the questions (1 to 24, 35). */
public final class CallBoundaryTest {
    private static final int SYNTAX = CensusWalk.SYNTAX_ERROR;
    private static final int SPACES = 0x20202020;
    /** Beside the indexes of two houses, two streets, two walkers and two crossings. */
    private static final int[] NOT_OF_TWO = {-1, 2, 3, 12, 16, 32, Integer.MIN_VALUE, Integer.MAX_VALUE};
    private static final String TWO = "town 2;street 0 1 9;street 1 0 20;house 0 4 0 3 100 200;house 1 5 1 2 0 1440 dog;walker 0 90;walker 1 95;";
    private static final String FULL = "town 10;" + "street 0 9 9;".repeat(12) + "house 11 4 0 20 0 1440;".repeat(16) + "walker 0 1;".repeat(3);

    public static void main(String[] args) throws IllegalAccessException {
        Boundaries.run(CallBoundaryTest.class);
    }

    @Says(in = "Promise 1", value = "Creates an object without a town and with an empty input buffer.")
    static void newObject() {
        CensusWalk walk = new CensusWalk();
        Check.same("crossings", walk.crossingCount(), 0);
        Check.same("houses", walk.houseCount(), 0);
        Check.argument("load(1)", () -> walk.load(1));
        Check.same("the first append", walk.append(0, 0, 0, 0, 0), 20);
        Check.same("another object has a buffer of its own", new CensusWalk().append(0, 0, 0, 0, 0), 20);
    }

    @Says(in = "Promise 2", value = "Appends 20 bytes to the input buffer: the 4 bytes of each argument, the most significant byte first.")
    static void bytesOfTheArguments() {
        CensusWalk walk = new CensusWalk();
        // "town 3;" from the first byte on, and the last byte of the last argument is the 20th
        walk.append(0x746f776e, 0x20333b20, SPACES, SPACES, 0x20202078);
        Check.same("load(19)", walk.load(19), 0);
        Check.same("crossingCount()", walk.crossingCount(), 3);
        walk.append(0x746f776e, 0x20333b20, SPACES, SPACES, 0x20202078);
        Check.same("load(20)", walk.load(20), SYNTAX);
        Check.same("errorOffset()", walk.errorOffset(), 19);
        for (int at = 7; at < 20; at++) {
            byteAt(at, 0x80);
            byteAt(at, 0xFF);
            byteAt(at, 0x00);
        }
    }

    private static void byteAt(int at, int wrong) {
        int[] words = {0x746f776e, 0x20333b20, SPACES, SPACES, SPACES};
        int shift = 24 - 8 * (at % 4);
        words[at / 4] = words[at / 4] & ~(0xFF << shift) | wrong << shift;
        CensusWalk walk = new CensusWalk();
        walk.append(words[0], words[1], words[2], words[3], words[4]);
        Check.same("load with the byte " + wrong + " at " + at, walk.load(20), SYNTAX);
        Check.same("errorOffset()", walk.errorOffset(), at);
    }

    @Says(in = "Promise 2", value = "Returns the new length of the buffer; -1 if it would exceed 900 bytes, and the buffer is unchanged then.")
    static void fullBuffer() {
        CensusWalk walk = new CensusWalk();
        for (int length = 20; length <= 900; length += 20) {
            int first = length == 20 ? 0x746f776e : SPACES;
            int second = length == 20 ? 0x20333b20 : SPACES;
            Check.same("append", walk.append(first, second, SPACES, SPACES, SPACES), length);
        }
        Check.same("append to 900 bytes", walk.append(0x78787878, 0x78787878, 0, 0, 0), -1);
        Check.same("append to 900 bytes", walk.append(0, 0, 0, 0, 0), -1);
        Check.argument("load(901)", () -> walk.load(901));
        Check.argument("load(920)", () -> walk.load(920));
        Check.same("load(900)", walk.load(900), 0);
        Check.same("crossingCount()", walk.crossingCount(), 3);
        Check.same("append to an empty buffer", walk.append(0, 0, 0, 0, 0), 20);
    }

    @Says(in = "Promise 3", value = "Reads the first bytes of the input buffer as a setup text and replaces the town by the one that it describes.")
    static void firstBytes() {
        CensusWalk walk = Check.town(TWO + "gap 9;cross 9;visit 99;");
        Check.append(walk, "town 4;street 0 1 9;house 0 0 0 0 0 1;house 0 0 1 0 0 1;xyz");
        Check.same("load(20)", walk.load(20), 0);
        Check.same("crossings", walk.crossingCount(), 4);
        Check.same("streets", walk.streetCount(), 1);
        Check.same("houses", walk.houseCount(), 0);
        Check.same("walkers", walk.walkerCount(), 0);
        Check.append(walk, "town 4;street 0 1 9;house 0 0 0 0 0 1;house 0 0 1 0 0 1;xyz");
        Check.same("load(56)", walk.load(56), 2);
        Check.same("the crossing time of before is gone", walk.distance(0, 1), 0);
        Check.same("the visit of before is gone", walk.duration(0, 1), 10);
        Check.append(walk, "town 4;xyz");
        Check.same("load(8), one byte too many", walk.load(8), SYNTAX);
        Check.append(walk, "town 4;xyz");
        Check.same("load(6), one byte too few", walk.load(6), SYNTAX);
        cut("town 12;", 6, 6);
        cut("town 2;gap 60;", 12, 12);
        cut("town;", 3, 0);
        cut("town 2;gap", 9, 7);
        cut("town 2;gaps", 10, 10);
        cut(" ".repeat(894) + "town 2;", 900, 900);
    }

    /** The end of the read bytes ends a number or a word too, whatever stands behind it in the buffer. */
    private static void cut(String text, int length, int offset) {
        CensusWalk walk = new CensusWalk();
        Check.append(walk, text);
        Check.same("the first " + length + " bytes of " + text, walk.load(length), SYNTAX);
        Check.same("errorOffset()", walk.errorOffset(), offset);
    }

    @Says(in = "Promise 3", value = "All plans are empty then.")
    static void plansAfterALoad() {
        CensusWalk walk = Check.planned(TWO, 0, 0, 0, 1, 1, 1);
        Check.load(walk, TWO);
        Check.same("planLength(0)", walk.planLength(0), 0);
        Check.same("planLength(1)", walk.planLength(1), 0);
        Check.same("counted()", walk.counted(), 0);
        Check.same("finish(0)", walk.finish(0), 90);
        Check.index("planned(0, 0)", () -> walk.planned(0, 0));
        Check.state("unplan(0)", () -> walk.unplan(0));
    }

    @Says(in = "Promise 3", value = "The input buffer is empty afterwards, also if the text has an error.")
    static void bufferAfterALoad() {
        CensusWalk walk = new CensusWalk();
        for (String text : new String[] {"town 3;", "town 0;", "", "town 3;" + " ".repeat(893)}) {
            Check.append(walk, text);
            Check.append(walk, text.length() > 800 ? "" : "some bytes that are not read");
            walk.load(text.length());
            Check.argument("load(1)", () -> walk.load(1));
            Check.same("append", walk.append(0, 0, 0, 0, 0), 20);
            Check.same("load(0) of 20 bytes", walk.load(0), SYNTAX);
            Check.argument("load(20)", () -> walk.load(20));
        }
    }

    @Says(in = "Promise 3", value = "An error leaves all other data unchanged.")
    static void dataAfterAnError() {
        CensusWalk walk = Check.planned(TWO + "gap 9;cross 9;visit 99;", 0, 0, 0, 1, 1, 1);
        walk.setOpen(0, false);
        walk.setDog(0, true);
        List<Long> before = Snapshot.of(walk);
        String other = "town 9;street 8 7 6;house 0 1 0 9 5 6 dog;walker 8 700;gap 1;cross 1;visit 1;";
        for (String error : new String[] {"x", "street 0 0 5;", "gap 1;", "walker 0 1441;", "house 0 1 0 9 5"}) {
            Check.same("load", Check.load(walk, other + error) < 0, true);
            Check.same("all is as before", Snapshot.of(walk).equals(before), true);
        }
        Check.same("the changes too: undo()", walk.undo(), 5);
        Check.same("hasDog(0)", walk.hasDog(0), false);
    }

    @Says(in = "Promise 3", value = "An empty text has a SYNTAX_ERROR.")
    static void emptyText() {
        CensusWalk walk = new CensusWalk();
        Check.same("load(0) of an empty buffer", walk.load(0), SYNTAX);
        Check.same("errorOffset()", walk.errorOffset(), 0);
        Check.append(walk, "town 3;");
        Check.same("load(0) of a right text", walk.load(0), SYNTAX);
        Check.same("errorOffset()", walk.errorOffset(), 0);
    }

    @Says(in = "Promise 3", value = "Returns the number of houses; or the error code of the first error.")
    static void numberOfHousesOrCode() {
        String street = "town 2;street 0 1 9;";
        for (int houses = 0; houses <= 16; houses++) {
            Check.same("load", Check.load(new CensusWalk(), street + "house 0 0 0 0 0 1;".repeat(houses)), houses);
        }
        Check.same("SYNTAX_ERROR", Check.load(new CensusWalk(), "town 2;x;gap 601;"), -2);
        Check.same("OUT_OF_RANGE", Check.load(new CensusWalk(), "town 2;gap 601;x;"), -3);
        Check.same("TOO_MANY", Check.load(new CensusWalk(), "town 2;" + "walker 0 0;".repeat(4) + "x"), -4);
        Check.same("TOO_DEEP", Check.load(new CensusWalk(), "town 2;visit (((((x"), -5);
    }

    @Says(in = "Promise 3", value = "Throws `IllegalArgumentException` if length is negative or greater than the length of the buffer; the buffer is unchanged then")
    static void wrongLengths() {
        CensusWalk walk = new CensusWalk();
        Check.argument("load(-1)", () -> walk.load(-1));
        Check.argument("load(1)", () -> walk.load(1));
        Check.append(walk, "town 5;");
        for (int bad : new int[] {-1, 21, 900, 901, Integer.MIN_VALUE, Integer.MAX_VALUE}) {
            Check.argument("load(" + bad + ")", () -> walk.load(bad));
        }
        Check.same("append", walk.append(SPACES, SPACES, SPACES, SPACES, SPACES), 40);
        Check.argument("load(41)", () -> walk.load(41));
        Check.same("load(40)", walk.load(40), 0);
        Check.same("crossingCount()", walk.crossingCount(), 5);
    }

    @Says(in = "Promise 4", value = "Returns the offset of the error found by the latest call of load that did not throw; -1 if it found none or if there was no such call.")
    static void errorOffsets() {
        CensusWalk walk = new CensusWalk();
        Check.same("no call", walk.errorOffset(), -1);
        Check.argument("load(1)", () -> walk.load(1));
        Check.same("no call that did not throw", walk.errorOffset(), -1);
        Check.load(walk, "x");
        Check.same("offset 0", walk.errorOffset(), 0);
        Check.load(walk, " ".repeat(899) + "x");
        Check.same("offset 899", walk.errorOffset(), 899);
        Check.load(walk, " ".repeat(900));
        Check.same("offset 900", walk.errorOffset(), 900);
        Check.argument("load(-1)", () -> walk.load(-1));
        Check.same("the throw does not count", walk.errorOffset(), 900);
        Check.load(walk, "town 2;");
        Check.same("it found none", walk.errorOffset(), -1);
        Check.argument("load(1)", () -> walk.load(1));
        Check.same("the throw does not count", walk.errorOffset(), -1);
    }

    @Says(in = "Promise 5", value = "Returns the number of crossings.")
    static void crossings() {
        Check.same("a new object", new CensusWalk().crossingCount(), 0);
        Check.same("the least", Check.town("town 1;").crossingCount(), 1);
        Check.same("the most", Check.town(FULL).crossingCount(), 10);
    }

    @Says(in = "Promise 6", value = "Returns the number of streets.")
    static void streets() {
        Check.same("a new object", new CensusWalk().streetCount(), 0);
        Check.same("the least", Check.town("town 1;").streetCount(), 0);
        Check.same("the most", Check.town(FULL).streetCount(), 12);
    }

    @Says(in = "Promise 7", value = "Returns the number of houses.")
    static void houses() {
        Check.same("a new object", new CensusWalk().houseCount(), 0);
        Check.same("the least", Check.town("town 1;").houseCount(), 0);
        Check.same("the most", Check.town(FULL).houseCount(), 16);
    }

    @Says(in = "Promise 8", value = "Returns the number of walkers.")
    static void walkers() {
        Check.same("a new object", new CensusWalk().walkerCount(), 0);
        Check.same("the least", Check.town("town 1;").walkerCount(), 0);
        Check.same("the most", Check.town(FULL).walkerCount(), 3);
    }

    @Says(in = "Promise 9", value = "Returns the distance between the houses; -1 if there is none.")
    static void noDistanceBetweenHouses() {
        CensusWalk walk = Check.town("town 3;street 0 1 9;street 1 2 9;house 0 9 0 0 0 1;house 1 0 0 0 0 1;house 1 9 0 0 0 1;");
        Check.same("the least distance", walk.distance(0, 1), 0);
        Check.same("distance(0, 2)", walk.distance(0, 2), 9);
        walk.setOpen(0, false);
        Check.same("none", walk.distance(0, 1), -1);
        Check.same("none", walk.distance(1, 0), -1);
        Check.same("on the open street", walk.distance(1, 2), 9);
    }

    @Says(in = "Promise 9", value = "Throws `IndexOutOfBoundsException` if one of the houses does not exist")
    static void distanceOfNoHouse() {
        CensusWalk walk = Check.town(TWO);
        for (int bad : NOT_OF_TWO) {
            Check.index("distance(" + bad + ", 0)", () -> walk.distance(bad, 0));
            Check.index("distance(1, " + bad + ")", () -> walk.distance(1, bad));
            Check.index("a house that is none and itself: " + bad, () -> walk.distance(bad, bad));
        }
        Check.same("the last ones", walk.distance(1, 1), 0);
        CensusWalk full = Check.town(FULL);
        Check.same("the last of sixteen", full.distance(15, 0), 0);
        Check.index("behind the last of sixteen", () -> full.distance(16, 0));
    }

    @Says(in = "Promise 10", value = "Returns the distance between the crossing and the house; -1 if there is none.")
    static void noDistanceFromTheCrossing() {
        CensusWalk walk = Check.town("town 3;street 0 1 9;street 1 0 9;house 0 0 0 0 0 1;");
        Check.same("the least distance", walk.distanceFrom(0, 0), 0);
        Check.same("a crossing without a street", walk.distanceFrom(2, 0), -1);
        walk.setOpen(0, false);
        Check.same("the house's street is closed", walk.distanceFrom(0, 0), -1);
    }

    @Says(in = "Promise 10", value = "Throws `IndexOutOfBoundsException` if the crossing or the house does not exist")
    static void distanceFromNoCrossing() {
        CensusWalk walk = Check.town(TWO);
        for (int bad : NOT_OF_TWO) {
            Check.index("distanceFrom(" + bad + ", 0)", () -> walk.distanceFrom(bad, 0));
            Check.index("distanceFrom(1, " + bad + ")", () -> walk.distanceFrom(1, bad));
            Check.index("distanceFrom(" + bad + ", " + bad + ")", () -> walk.distanceFrom(bad, bad));
        }
        Check.same("the last ones", walk.distanceFrom(1, 1), 5);
        CensusWalk full = Check.town(FULL);
        Check.same("the last of ten", full.distanceFrom(9, 15), 5);
        Check.index("behind the last of ten", () -> full.distanceFrom(10, 0));
        Check.index("a crossing, but no house", () -> Check.town("town 1;").distanceFrom(0, 0));
    }

    @Says(in = "Promise 11", value = "Throws `IndexOutOfBoundsException` if there is no such house")
    static void streetOfNoHouse() {
        CensusWalk walk = Check.town(TWO);
        for (int bad : NOT_OF_TWO) {
            Check.index("streetOf(" + bad + ")", () -> walk.streetOf(bad));
        }
        Check.same("the first one", walk.streetOf(0), 0);
        Check.same("the last one", walk.streetOf(1), 1);
        Check.same("the last of the most", Check.town(FULL).streetOf(15), 11);
    }

    @Says(in = "Promise 12", value = "Throws `IndexOutOfBoundsException` if there is no such street")
    static void isOpenOfNoStreet() {
        CensusWalk walk = Check.town(TWO);
        for (int bad : NOT_OF_TWO) {
            Check.index("isOpen(" + bad + ")", () -> walk.isOpen(bad));
        }
        Check.same("the last one", walk.isOpen(1), true);
        Check.same("the last of the most", Check.town(FULL).isOpen(11), true);
    }

    @Says(in = "Promise 13", value = "Throws `IndexOutOfBoundsException` if there is no such house")
    static void dogOfNoHouse() {
        CensusWalk walk = Check.town(TWO);
        for (int bad : NOT_OF_TWO) {
            Check.index("hasDog(" + bad + ")", () -> walk.hasDog(bad));
        }
        Check.same("the last one", walk.hasDog(1), true);
    }

    @Says(in = "Promise 14", value = "`time`: 0 to 9999")
    static void leastAndGreatestTime() {
        CensusWalk walk = Check.town(TWO);
        Check.same("isHome(1, 0)", walk.isHome(1, 0), true);
        Check.same("isHome(1, 1439)", walk.isHome(1, 1439), true);
        Check.same("isHome(1, 1440)", walk.isHome(1, 1440), false);
        Check.same("isHome(1, 9999)", walk.isHome(1, 9999), false);
    }

    @Says(in = "Promise 14", value = "Throws `IndexOutOfBoundsException` if there is no such house (checked first)")
    static void homeOfNoHouse() {
        CensusWalk walk = Check.town(TWO);
        for (int bad : NOT_OF_TWO) {
            Check.index("isHome(" + bad + ", 5)", () -> walk.isHome(bad, 5));
            Check.index("isHome(" + bad + ", -1), the house first", () -> walk.isHome(bad, -1));
            Check.index("isHome(" + bad + ", 10000), the house first", () -> walk.isHome(bad, 10000));
        }
    }

    @Says(in = "Promise 14", value = "Throws `IllegalArgumentException` if time is out of range")
    static void timeOutOfRange() {
        CensusWalk walk = Check.town(TWO);
        for (int bad : new int[] {-1, 10000, Integer.MIN_VALUE, Integer.MAX_VALUE}) {
            Check.argument("isHome(1, " + bad + ")", () -> walk.isHome(1, bad));
        }
    }

    @Says(in = "Promise 15", value = "`call`: 1 or 2")
    static void firstOrSecondCall() {
        CensusWalk walk = Check.town(TWO + "visit call*100+persons;");
        Check.same("duration(0, 1)", walk.duration(0, 1), 103);
        Check.same("duration(0, 2)", walk.duration(0, 2), 203);
        Check.same("duration(1, 2)", walk.duration(1, 2), 202);
    }

    @Says(in = "Promise 15", value = "Throws `IndexOutOfBoundsException` if there is no such house (checked first)")
    static void durationOfNoHouse() {
        CensusWalk walk = Check.town(TWO);
        for (int bad : NOT_OF_TWO) {
            Check.index("duration(" + bad + ", 1)", () -> walk.duration(bad, 1));
            Check.index("duration(" + bad + ", 0), the house first", () -> walk.duration(bad, 0));
            Check.index("duration(" + bad + ", 3), the house first", () -> walk.duration(bad, 3));
        }
    }

    @Says(in = "Promise 15", value = "Throws `IllegalArgumentException` if call is not 1 or 2")
    static void noSuchCall() {
        CensusWalk walk = Check.town(TWO);
        for (int bad : new int[] {0, 3, -1, Integer.MIN_VALUE, Integer.MAX_VALUE}) {
            Check.argument("duration(1, " + bad + ")", () -> walk.duration(1, bad));
        }
    }

    @Says(in = "Promise 16", value = "Returns the number of houses in the walker's plan.")
    static void emptyAndFullPlan() {
        CensusWalk walk = Check.town(TWO);
        Check.same("an empty plan", walk.planLength(1), 0);
        for (int length = 1; length <= 12; length++) {
            walk.plan(1, 0);
            Check.same("planLength(1)", walk.planLength(1), length);
        }
        Check.same("the other plan", walk.planLength(0), 0);
    }

    @Says(in = "Promise 16", value = "Throws `IndexOutOfBoundsException` if there is no such walker")
    static void planOfNobody() {
        CensusWalk walk = Check.town(TWO);
        for (int bad : NOT_OF_TWO) {
            Check.index("planLength(" + bad + ")", () -> walk.planLength(bad));
        }
        Check.same("the last of the most", Check.town(FULL).planLength(2), 0);
    }

    @Says(in = "Promise 17", value = "`k`: index in the plan, from 0")
    static void plannedFromZero() {
        CensusWalk walk = Check.planned(TWO, 0, 1, 0, 0);
        Check.same("planned(0, 0)", walk.planned(0, 0), 1);
        Check.same("planned(0, 1)", walk.planned(0, 1), 0);
        Check.index("planned(0, -1)", () -> walk.planned(0, -1));
        Check.index("planned(0, 2)", () -> walk.planned(0, 2));
    }

    @Says(in = "Promise 17", value = "Throws `IndexOutOfBoundsException` if there is no such walker or index")
    static void plannedAtNoIndex() {
        CensusWalk walk = Check.planned(TWO, 0, 1, 0, 0);
        for (int bad : NOT_OF_TWO) {
            Check.index("Check.planned(" + bad + ", 0)", () -> walk.planned(bad, 0));
            Check.index("planned(0, " + bad + ")", () -> walk.planned(0, bad));
        }
        Check.index("planned(1, 0), an empty plan", () -> walk.planned(1, 0));
        Check.same("the first index", walk.planned(0, 0), 1);
        Check.same("the last index", walk.planned(0, 1), 0);
        walk.unplan(0);
        Check.index("planned(0, 1) after unplan", () -> walk.planned(0, 1));
        for (int k = 1; k < 12; k++) {
            walk.plan(0, k % 2);
        }
        Check.same("the last index of a full plan", walk.planned(0, 11), 1);
        Check.index("planned(0, 12)", () -> walk.planned(0, 12));
    }

    @Says(in = "Promise 18", value = "`k`: index in the plan, from 0")
    static void resultFromZero() {
        CensusWalk walk = Check.planned(TWO, 0, 1, 0, 0);
        Check.same("result(0, 0)", walk.result(0, 0), CensusWalk.ANSWERED);
        Check.same("result(0, 1)", walk.result(0, 1), CensusWalk.ANSWERED);
        Check.index("result(0, -1)", () -> walk.result(0, -1));
        Check.index("result(0, 2)", () -> walk.result(0, 2));
    }

    @Says(in = "Promise 18", value = "Throws `IndexOutOfBoundsException` if there is no such walker or index")
    static void resultAtNoIndex() {
        CensusWalk walk = Check.planned(TWO, 0, 1, 0, 0);
        for (int bad : NOT_OF_TWO) {
            Check.index("result(" + bad + ", 0)", () -> walk.result(bad, 0));
            Check.index("result(0, " + bad + ")", () -> walk.result(0, bad));
        }
        Check.index("result(1, 0), an empty plan", () -> walk.result(1, 0));
        Check.same("the first index", walk.result(0, 0), CensusWalk.ANSWERED);
        Check.same("the last index", walk.result(0, 1), CensusWalk.ANSWERED);
        walk.unplan(0);
        Check.index("result(0, 1) after unplan", () -> walk.result(0, 1));
        for (int k = 1; k < 12; k++) {
            walk.plan(0, 1);
        }
        Check.same("the last index of a full plan", walk.result(0, 11), CensusWalk.DONE);
        Check.index("result(0, 12)", () -> walk.result(0, 12));
    }

    @Says(in = "Promise 19", value = "`k`: index in the plan, from 0")
    static void arrivalFromZero() {
        CensusWalk walk = Check.planned(TWO, 0, 1, 0, 0);
        Check.same("arrival(0, 0)", walk.arrival(0, 0), 104);
        Check.same("arrival(0, 1)", walk.arrival(0, 1), 124);
        Check.index("arrival(0, -1)", () -> walk.arrival(0, -1));
        Check.index("arrival(0, 2)", () -> walk.arrival(0, 2));
    }

    @Says(in = "Promise 19", value = "Throws `IndexOutOfBoundsException` if there is no such walker or index")
    static void arrivalAtNoIndex() {
        CensusWalk walk = Check.planned(TWO, 0, 1, 0, 0);
        for (int bad : NOT_OF_TWO) {
            Check.index("arrival(" + bad + ", 0)", () -> walk.arrival(bad, 0));
            Check.index("arrival(0, " + bad + ")", () -> walk.arrival(0, bad));
        }
        Check.index("arrival(1, 0), an empty plan", () -> walk.arrival(1, 0));
        Check.same("the first index", walk.arrival(0, 0), 104);
        Check.same("the last index", walk.arrival(0, 1), 124);
        walk.unplan(0);
        Check.index("arrival(0, 1) after unplan", () -> walk.arrival(0, 1));
        for (int k = 1; k < 12; k++) {
            walk.plan(0, 1);
        }
        Check.same("the last index of a full plan", walk.arrival(0, 11), 114);
        Check.index("arrival(0, 12)", () -> walk.arrival(0, 12));
    }

    @Says(in = "Promise 20", value = "Throws `IndexOutOfBoundsException` if there is no such walker")
    static void finishOfNobody() {
        CensusWalk walk = Check.planned(TWO, 0, 1);
        for (int bad : NOT_OF_TWO) {
            Check.index("finish(" + bad + ")", () -> walk.finish(bad));
        }
        Check.same("the first one", walk.finish(0), 114);
        Check.same("the last one", walk.finish(1), 95);
    }

    @Says(in = "Promise 21", value = "Returns the greatest finish of all walkers whose plans are not empty; 0 if there are none.")
    static void finishOfAll() {
        Check.same("no walkers", Check.town("town 1;").finishAll(), 0);
        CensusWalk walk = Check.town("town 2;street 0 1 9;house 0 0 0 0 0 1440;walker 0 50;walker 0 1440;walker 1 20;");
        Check.same("empty plans", walk.finishAll(), 0);
        walk.plan(2, 0);
        Check.same("only the third has a plan", walk.finishAll(), 39);
        walk.plan(0, 0);
        Check.same("the first is later", walk.finishAll(), 50);
        walk.plan(1, 0);
        Check.same("the second is the latest", walk.finishAll(), 1440);
        CensusWalk early = Check.planned("town 4;street 0 1 9;street 2 3 9;house 0 0 0 0 0 1440;walker 2 0;", 0, 0);
        Check.same("a finish of 0", early.finishAll(), 0);
    }

    @Says(in = "Promise 22", value = "Returns the set of houses that are counted in the simulation.")
    static void noneAndAllCounted() {
        CensusWalk walk = Check.town(FULL);
        Check.same("none", walk.counted(), 0);
        for (int house = 0; house < 16; house++) {
            walk.plan(house % 2, house);
            Check.same("counted()", walk.counted(), (1 << house + 1) - 1);
        }
    }

    @Says(in = "Promise 23", value = "Returns the sum of the persons of the houses that are counted in the simulation.")
    static void noneAndAllPersons() {
        CensusWalk walk = Check.town(FULL);
        Check.same("none", walk.persons(), 0);
        for (int house = 0; house < 16; house++) {
            walk.plan(house % 2, house);
        }
        Check.same("all", walk.persons(), 320);
        walk.plan(2, 0);
        Check.same("no house twice", walk.persons(), 320);
    }

    @Says(in = "Promise 24", value = "Returns the number of calls on the house in the simulation, 0 to 2.")
    static void noneToTwoCalls() {
        CensusWalk walk = Check.town("town 2;street 0 1 9;house 0 0 0 0 0 1;walker 0 50;gap 0;");
        int[] due = {0, 1, 2, 2, 2};
        for (int calls : due) {
            Check.same("calls(0)", walk.calls(0), calls);
            walk.plan(0, 0);
        }
    }

    @Says(in = "Promise 24", value = "Throws `IndexOutOfBoundsException` if there is no such house")
    static void callsOnNoHouse() {
        CensusWalk walk = Check.planned(TWO, 0, 1);
        for (int bad : NOT_OF_TWO) {
            Check.index("calls(" + bad + ")", () -> walk.calls(bad));
        }
        Check.same("the first one", walk.calls(0), 0);
        Check.same("the last one", walk.calls(1), 1);
    }

    @Says(in = "Promise 35", value = "It starts at 0; each number n in the following order replaces it by 31 * checksum + n, wrapping around on overflow of a long:")
    static void wrappingChecksum() {
        Check.same("a new object", new CensusWalk().checksum(), 0);
        Check.same("no walker, street or house", Check.town("town 10;").checksum(), 0);
        CensusWalk one = Check.town("town 1;walker 0 1440;");
        Check.same("one walker", one.checksum(), 31L * 1440);
        CensusWalk walk = Check.planned(TWO, 0, 0, 0, 0, 1, 1);
        long due = 0;
        for (int n : new int[] {2, 95, 0, 1, 0, 3, 1, 110, 1, 0, 1, 0, 1, 1, 1, 1, 2}) {
            due = 31 * due + n;
        }
        Check.same("seventeen numbers wrap around", walk.checksum(), due);
        Check.same("due is no small number", due < 0 || due > Integer.MAX_VALUE, true);
    }

    @Says(in = "Promise 35", value = "for each walker the length of the plan, the finish, and for each index of the plan the house and the result; for each house calls(house) and 1 or 0 (whether it has a dog); for each street 1 or 0 (whether it is open); counted().")
    static void checksumOfTheFullTown() {
        CensusWalk walk = Check.town(FULL);
        for (int walker = 0; walker < 3; walker++) {
            for (int k = 0; k < 12; k++) {
                walk.plan(walker, (k + 5 * walker) % 16);
            }
        }
        walk.setDog(15, true);
        walk.setOpen(0, false);
        long due = 0;
        for (int walker = 0; walker < 3; walker++) {
            due = 31 * (31 * due + 12) + walk.finish(walker);
            for (int k = 0; k < 12; k++) {
                due = 31 * (31 * due + walk.planned(walker, k)) + walk.result(walker, k);
            }
        }
        for (int house = 0; house < 16; house++) {
            due = 31 * (31 * due + walk.calls(house)) + (house == 15 ? 1 : 0);
        }
        for (int street = 0; street < 12; street++) {
            due = 31 * due + (street == 0 ? 0 : 1);
        }
        Check.same("checksum()", walk.checksum(), 31 * due + 65535);
    }
}
