/** The boundary cases that the promises name for soonest, soonestOrder, division and walkerOf (25 to 28). */
public final class SearchBoundaryTest {
    /** Beside the indexes of two walkers. */
    private static final int[] NO_WALKER = {-1, 2, 3, Integer.MIN_VALUE, Integer.MAX_VALUE};
    /** With ten houses: a house behind the last, nine houses, all ten, and sets with the highest bits. */
    private static final int[] NO_SET = {1 << 10, 1 | 1 << 10, 0x1FF, 0x3FE, 0x3FF, 1 << 15, 1 << 16, 1 << 30, 1 << 31, 1 << 31 | 1, -1, Integer.MAX_VALUE};
    private static final String TEN = "town 2;street 0 1 10;" + "house 0 5 0 1 0 1440;".repeat(10) + "walker 0 50;walker 1 60;";

    public static void main(String[] args) throws IllegalAccessException {
        Boundaries.run(SearchBoundaryTest.class);
    }

    /** One house 5 minutes away from the walker, who starts at 50; the visit takes 7 minutes. */
    private static CensusWalk oneHouse(int from, int to) {
        return Check.town("town 2;street 0 1 10;house 0 5 0 1 " + from + " " + to + ";walker 0 50;visit 7;");
    }

    @Says(in = "Promise 25", value = "The walker begins at the start crossing at the start time, goes to the houses in any order, each house once, and at each house waits, if necessary, until somebody is at home")
    static void waiting() {
        Check.same("just at home", oneHouse(55, 56).soonest(0, 1), 62);
        Check.same("a minute to wait", oneHouse(56, 57).soonest(0, 1), 63);
        Check.same("nearly a day to wait", oneHouse(1439, 1440).soonest(0, 1), 1446);
        Check.same("nothing to wait for", oneHouse(54, 1440).soonest(0, 1), 62);
        CensusWalk walk = Check.town("town 2;street 0 1 10;house 0 10 0 1 70 1440;house 0 0 0 1 0 51;walker 0 50;visit 7;");
        Check.same("the walker waits at the second house", walk.soonest(0, 3), 77);
        walk.setHours(0, 67, 1440);
        Check.same("nothing to wait for at the second house", walk.soonest(0, 3), 74);
        walk.setHours(0, 66, 67);
        Check.same("too late at the second house", walk.soonest(0, 3), -1);
    }

    @Says(in = "Promise 25", value = "the visit, with the duration of a first call, must begin when somebody is at home.")
    static void lastMinute() {
        Check.same("the last minute", oneHouse(0, 56).soonest(0, 1), 62);
        Check.same("a minute too late", oneHouse(0, 55).soonest(0, 1), -1);
        CensusWalk second = Check.town("town 2;street 0 1 10;house 0 5 0 1 0 1440;house 0 10 0 1 0 68;walker 0 50;visit 7;");
        Check.same("both orders are possible", second.soonestOrder(0, 3, 0), 0);
        second.setHours(1, 0, 67);
        Check.same("a minute too late after the other", second.soonestOrder(0, 3, 0), 1);
        CensusWalk late = Check.town("town 2;street 0 1 10;house 0 0 0 1 0 1440;walker 0 1439;walker 0 1440;visit call*100;");
        Check.same("the last minute of the day", late.soonest(0, 1), 1539);
        Check.same("after the day", late.soonest(1, 1), -1);
        late.plan(0, 0);
        late.plan(0, 0);
        Check.same("a first call, whatever the plans are", late.soonest(0, 1), 1539);
    }

    @Says(in = "Promise 25", value = "Plans do not matter.")
    static void plansDoNotMatter() {
        CensusWalk walk = Check.town(TEN);
        for (int k = 0; k < 12; k++) {
            walk.plan(0, k % 10);
            walk.plan(1, 0);
        }
        Check.same("soonest(0, 0)", walk.soonest(0, 0), 50);
        Check.same("soonest(0, 255)", walk.soonest(0, 255), 135);
        Check.same("division(1)", walk.division(1), 65);
    }

    @Says(in = "Promise 25", value = "`houses`: a set of at most 8 houses")
    static void eightHouses() {
        CensusWalk walk = Check.town(TEN);
        Check.same("the lowest eight", walk.soonest(0, 0xFF), 135);
        Check.same("the highest eight", walk.soonest(0, 0x3FC), 135);
        Check.same("seven", walk.soonest(0, 0x7F), 125);
        Check.argument("nine", () -> walk.soonest(0, 0x1FF));
    }

    @Says(in = "Promise 25", value = "Returns the earliest time after the last visit; the start time for the empty set; -1 if it is not possible.")
    static void emptyAndImpossibleSets() {
        CensusWalk walk = Check.town("town 4;street 0 1 10;street 2 3 10;house 0 5 0 1 0 1440;house 1 5 0 1 0 1440;house 0 5 0 1 0 55;walker 0 50;walker 2 1440;walker 1 0;");
        Check.same("the empty set", walk.soonest(0, 0), 50);
        Check.same("the empty set at 1440", walk.soonest(1, 0), 1440);
        Check.same("the empty set at 0", walk.soonest(2, 0), 0);
        Check.same("one house", walk.soonest(0, 1), 65);
        Check.same("no way", walk.soonest(0, 2), -1);
        Check.same("no way to one of two", walk.soonest(0, 3), -1);
        Check.same("too late", walk.soonest(0, 4), -1);
        Check.same("too late for one of two", walk.soonest(0, 5), -1);
        Check.same("in time", walk.soonest(2, 5), 25);
        Check.same("the empty set without houses", Check.town("town 1;walker 0 7;").soonest(0, 0), 7);
    }

    @Says(in = "Promise 25", value = "Throws `IndexOutOfBoundsException` if there is no such walker (checked first)")
    static void soonestOfNobody() {
        CensusWalk walk = Check.town(TEN);
        for (int bad : NO_WALKER) {
            Check.index("soonest(" + bad + ", 1)", () -> walk.soonest(bad, 1));
            for (int set : NO_SET) {
                Check.index("soonest(" + bad + ", " + set + "), the walker first", () -> walk.soonest(bad, set));
            }
        }
        Check.same("the last one", walk.soonest(1, 1), 75);
    }

    @Says(in = "Promise 25", value = "Throws `IllegalArgumentException` if the set contains a house that does not exist, or more than 8 houses")
    static void soonestOfNoSet() {
        CensusWalk walk = Check.town(TEN);
        for (int set : NO_SET) {
            Check.argument("soonest(0, " + set + ")", () -> walk.soonest(0, set));
        }
        Check.same("the last house", walk.soonest(0, 1 << 9), 65);
        Check.argument("no house at all", () -> Check.town("town 1;walker 0 7;").soonest(0, 1));
        CensusWalk full = Check.town("town 2;street 0 1 10;" + "house 0 5 0 1 0 1440;".repeat(16) + "walker 0 50;");
        Check.same("the last of sixteen", full.soonest(0, 1 << 15), 65);
        Check.argument("behind the last of sixteen", () -> full.soonest(0, 1 << 16));
    }

    @Says(in = "Promise 26", value = "`houses`: a set of at most 8 houses")
    static void orderOfEightHouses() {
        CensusWalk walk = Check.town(TEN);
        Check.same("the lowest eight", walk.soonestOrder(0, 0xFF, 7), 7);
        Check.same("the highest eight", walk.soonestOrder(0, 0x3FC, 7), 9);
        Check.argument("nine", () -> walk.soonestOrder(0, 0x1FF, 7));
        Check.argument("nine", () -> walk.soonestOrder(0, 0x3FE, 7));
    }

    @Says(in = "Promise 26", value = "`k`: index, from 0")
    static void leastIndex() {
        CensusWalk walk = Check.town(TEN);
        Check.same("index 0 of one house", walk.soonestOrder(0, 0x80, 0), 7);
        Check.same("index 0 of eight houses", walk.soonestOrder(0, 0x3FC, 0), 2);
        Check.argument("index -1", () -> walk.soonestOrder(0, 0x80, -1));
    }

    @Says(in = "Promise 26", value = "Returns the house at index k in the order with which the walker finishes at soonest(walker, houses), of several orders the lexicographically first one; -1 if it is not possible, or if k is not less than the number of houses in the set.")
    static void firstOrderAndItsEnds() {
        CensusWalk walk = Check.town(TEN);
        int[] due = {2, 3, 4, 5, 6, 7, 8, 9};
        for (int k = 0; k < due.length; k++) {
            Check.same("all orders are alike", walk.soonestOrder(0, 0x3FC, k), due[k]);
        }
        Check.same("k is the number of houses", walk.soonestOrder(0, 0x3FC, 8), -1);
        Check.same("k is greater", walk.soonestOrder(0, 0x3FC, Integer.MAX_VALUE), -1);
        Check.same("the last index of two", walk.soonestOrder(0, 0x201, 1), 9);
        Check.same("behind the last index of two", walk.soonestOrder(0, 0x201, 2), -1);
        Check.same("the empty set", walk.soonestOrder(0, 0, 0), -1);
        walk.setHours(5, 0, 55);
        Check.same("not possible", walk.soonestOrder(0, 0x3FC, 0), -1);
        Check.same("not possible", walk.soonestOrder(0, 0x20, 0), -1);
        Check.same("not possible, behind the end", walk.soonestOrder(0, 0x20, 1), -1);
        Check.same("possible without house 5", walk.soonestOrder(0, 0x1C, 0), 2);
        slowerFirstOrder();
    }

    /** Houses 0 and 1 are visited faster in the order 1, 0, which matters only until house 2 opens late enough. */
    private static void slowerFirstOrder() {
        CensusWalk walk = Check.town("town 2;street 0 1 50;house 0 20 0 1 0 1440;house 0 10 0 1 0 1440;house 0 30 0 1 119 1440;walker 0 50;");
        Check.same("a minute too slow", walk.soonestOrder(0, 7, 0), 1);
        walk.setHours(2, 120, 1440);
        Check.same("just as soon", walk.soonestOrder(0, 7, 0), 0);
        Check.same("soonest(0, 7)", walk.soonest(0, 7), 130);
        CensusWalk four = Check.town("town 2;street 0 1 50;house 0 20 0 1 0 1440;house 0 10 0 1 0 1440;house 0 30 0 1 0 121;house 0 40 0 1 500 501;walker 0 50;");
        order(four, 0, 1, 2, 3);
        four.setHours(2, 0, 120);
        order(four, 0, 2, 1, 3);
        four.setHours(2, 0, 91);
        order(four, 0, 2, 1, 3);
        four.setHours(2, 0, 90);
        order(four, 2, 0, 1, 3);
    }

    private static void order(CensusWalk walk, int... due) {
        for (int k = 0; k < due.length; k++) {
            Check.same("soonestOrder(0, 15, " + k + ")", walk.soonestOrder(0, 15, k), due[k]);
        }
    }

    @Says(in = "Promise 26", value = "Throws `IndexOutOfBoundsException` if there is no such walker (checked first)")
    static void orderOfNobody() {
        CensusWalk walk = Check.town(TEN);
        for (int bad : NO_WALKER) {
            Check.index("soonestOrder(" + bad + ", 1, 0)", () -> walk.soonestOrder(bad, 1, 0));
            Check.index("soonestOrder(" + bad + ", 1, -1), the walker first", () -> walk.soonestOrder(bad, 1, -1));
            Check.index("soonestOrder(" + bad + ", -1, 0), the walker first", () -> walk.soonestOrder(bad, -1, 0));
        }
        Check.same("the last one", walk.soonestOrder(1, 1, 0), 0);
    }

    @Says(in = "Promise 26", value = "Throws `IllegalArgumentException` if the set contains a house that does not exist or more than 8 houses, or if k is negative")
    static void orderOfNoSet() {
        CensusWalk walk = Check.town(TEN);
        for (int set : NO_SET) {
            Check.argument("soonestOrder(0, " + set + ", 0)", () -> walk.soonestOrder(0, set, 0));
            Check.argument("soonestOrder(0, " + set + ", 100)", () -> walk.soonestOrder(0, set, 100));
        }
        for (int set : new int[] {0, 1, 0xFF}) {
            Check.argument("soonestOrder(0, " + set + ", -1)", () -> walk.soonestOrder(0, set, -1));
            Check.argument("soonestOrder(0, " + set + ", min)", () -> walk.soonestOrder(0, set, Integer.MIN_VALUE));
        }
        walk.setOpen(0, false);
        Check.argument("k is negative where it is not possible", () -> walk.soonestOrder(0, 1, -1));
        Check.argument("no such house where it is not possible", () -> walk.soonestOrder(0, 1 << 10, 0));
    }

    @Says(in = "Promise 27", value = "Divides a set of houses among all walkers so that the census is finished as early as possible: each house is given to one walker, and each walker finishes the given houses at the time told by soonest.")
    static void fewWalkersAndHouses() {
        CensusWalk walk = Check.town(TEN);
        Check.same("one house, two walkers", walk.division(1), 65);
        Check.same("two houses, two walkers", walk.division(3), 75);
        Check.same("eight houses, two walkers", walk.division(0x3FC), 105);
        CensusWalk alone = Check.town("town 2;street 0 1 10;" + "house 0 5 0 1 0 1440;".repeat(8) + "walker 0 50;");
        Check.same("eight houses, one walker", alone.division(255), alone.soonest(0, 255));
        Check.same("eight houses, one walker", alone.division(255), 135);
        CensusWalk three = Check.town("town 2;street 0 1 10;" + "house 0 5 0 1 0 1440;".repeat(8) + "walker 0 50;walker 0 50;walker 1 50;");
        Check.same("eight houses, three walkers", three.division(255), 85);
        Check.same("no walker", Check.town("town 2;street 0 1 10;house 0 5 0 1 0 1440;").division(1), -1);
    }

    @Says(in = "Promise 27", value = "The time of a division is the greatest of these times of the walkers that got a house; it is 0 for the empty set.")
    static void walkersWithoutHouses() {
        CensusWalk walk = Check.town("town 2;street 0 1 10;house 0 5 0 1 0 1440;house 0 5 0 1 0 1440;walker 0 1440;walker 0 20;walker 1 1000;");
        Check.same("a late walker gets nothing and does not count", walk.division(1), 35);
        Check.same("nor for two houses", walk.division(3), 45);
        Check.same("the empty set", walk.division(0), 0);
        Check.same("the empty set without walkers", Check.town("town 1;").division(0), 0);
        Check.same("the empty set of a new object", new CensusWalk().division(0), 0);
    }

    @Says(in = "Promise 27", value = "`houses`: a set of at most 8 houses")
    static void divisionOfEightHouses() {
        CensusWalk walk = Check.town(TEN);
        Check.same("the lowest eight", walk.division(0xFF), 105);
        Check.same("the highest eight", walk.division(0x3FC), 105);
        Check.argument("nine", () -> walk.division(0x1FF));
        Check.argument("nine", () -> walk.division(0x3FE));
    }

    @Says(in = "Promise 27", value = "Returns the smallest time of all divisions; -1 if there is no possible division.")
    static void noPossibleDivision() {
        CensusWalk walk = Check.town("town 4;street 0 1 10;street 2 3 10;house 0 5 0 1 0 1440;house 1 5 0 1 0 1440;house 0 5 0 1 0 55;walker 0 50;walker 2 60;");
        Check.same("each walker has one of them", walk.division(3), 75);
        Check.same("too late for all", walk.division(4), -1);
        Check.same("too late for one of three", walk.division(7), -1);
        walk.setHours(2, 0, 56);
        Check.same("in time", walk.division(7), 75);
        walk.setOpen(1, false);
        Check.same("no way for anybody", walk.division(2), -1);
        Check.same("no way to one of two", walk.division(3), -1);
    }

    @Says(in = "Promise 27", value = "Throws `IllegalArgumentException` if the set contains a house that does not exist, or more than 8 houses")
    static void divisionOfNoSet() {
        CensusWalk walk = Check.town(TEN);
        for (int set : NO_SET) {
            Check.argument("division(" + set + ")", () -> walk.division(set));
        }
        Check.same("the last house", walk.division(1 << 9), 65);
        Check.argument("no house at all", () -> Check.town("town 1;walker 0 7;").division(1));
        Check.argument("a new object", () -> new CensusWalk().division(1));
    }

    @Says(in = "Promise 28", value = "`houses`: a set of at most 8 houses")
    static void walkersOfEightHouses() {
        CensusWalk walk = Check.town(TEN);
        Check.same("the lowest eight", walk.walkerOf(0xFF, 7), 1);
        Check.same("the highest eight", walk.walkerOf(0x3FC, 2), 0);
        Check.argument("nine", () -> walk.walkerOf(0x1FF, 7));
        Check.argument("nine", () -> walk.walkerOf(0x3FE, 2));
    }

    @Says(in = "Promise 28", value = "of several divisions the first one is taken, where divisions are compared by the walker of the house with the smallest index first, then by the walker of the next house, and so on")
    static void firstDivision() {
        CensusWalk walk = Check.town("town 2;street 0 1 10;" + "house 0 5 0 1 0 1440;".repeat(16) + "walker 0 50;walker 1 50;walker 0 50;");
        int[] due = {0, 0, 0, 1, 1, 1, 2, 2};
        for (int house = 0; house < 8; house++) {
            Check.same("walkerOf(0xFF, " + house + ")", walk.walkerOf(0xFF, house), due[house]);
            Check.same("walkerOf(0xFF00, " + (house + 8) + ")", walk.walkerOf(0xFF00, house + 8), due[house]);
        }
        Check.same("one house", walk.walkerOf(1 << 15, 15), 0);
        CensusWalk better = Check.town("town 2;street 0 1 10;house 0 5 0 1 0 1440;walker 0 50;walker 1 49;walker 0 49;");
        Check.same("a minute earlier counts more", better.walkerOf(1, 0), 1);
    }

    @Says(in = "Promise 28", value = "-1 if the house is not in the set or if there is no possible division.")
    static void walkerOfNoneOrImpossible() {
        CensusWalk walk = Check.town(TEN);
        Check.same("the first one is not in the set", walk.walkerOf(0x3FC, 0), -1);
        Check.same("the last one is not in the set", walk.walkerOf(0xFF, 9), -1);
        Check.same("the empty set", walk.walkerOf(0, 0), -1);
        Check.same("in the set", walk.walkerOf(0x201, 9), 0);
        walk.setHours(9, 0, 55);
        Check.same("no possible division", walk.walkerOf(0x201, 9), -1);
        Check.same("no possible division for the other either", walk.walkerOf(0x201, 0), -1);
        CensusWalk behind = Check.town("town 3;street 0 1 10;street 1 2 10;house 1 5 0 1 0 1440;walker 0 50;");
        Check.same("a way", behind.walkerOf(1, 0), 0);
        behind.setOpen(0, false);
        Check.same("no way for anybody", behind.walkerOf(1, 0), -1);
        CensusWalk nobody = Check.town("town 2;street 0 1 10;house 0 5 0 1 0 1440;");
        Check.same("no walker", nobody.walkerOf(1, 0), -1);
    }

    @Says(in = "Promise 28", value = "Throws `IndexOutOfBoundsException` if there is no such house (checked first)")
    static void walkerOfNoHouse() {
        CensusWalk walk = Check.town(TEN);
        for (int bad : new int[] {-1, 10, 15, 16, 32, Integer.MIN_VALUE, Integer.MAX_VALUE}) {
            Check.index("walkerOf(1, " + bad + ")", () -> walk.walkerOf(1, bad));
            Check.index("walkerOf(0, " + bad + ")", () -> walk.walkerOf(0, bad));
            for (int set : NO_SET) {
                Check.index("walkerOf(" + set + ", " + bad + "), the house first", () -> walk.walkerOf(set, bad));
            }
        }
        Check.same("the last one", walk.walkerOf(1 << 9, 9), 0);
    }

    @Says(in = "Promise 28", value = "Throws `IllegalArgumentException` if the set contains a house that does not exist, or more than 8 houses")
    static void walkerOfNoSet() {
        CensusWalk walk = Check.town(TEN);
        for (int set : NO_SET) {
            Check.argument("walkerOf(" + set + ", 0)", () -> walk.walkerOf(set, 0));
            Check.argument("walkerOf(" + set + ", 9)", () -> walk.walkerOf(set, 9));
        }
        Check.same("eight houses", walk.walkerOf(0x3FC, 9), 1);
    }
}
