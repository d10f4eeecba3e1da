/** The boundary cases that the document names for the town, its distances and the duration of a visit. */
public final class TownBoundaryTest {
    private static final int RANGE = CensusWalk.OUT_OF_RANGE;
    private static final String STREET = "town 2;street 0 1 9;";

    public static void main(String[] args) throws IllegalAccessException {
        Boundaries.run(TownBoundaryTest.class);
    }

    @Says(in = "What it is", value = "An object is used for at most 512 calls after it has been made")
    static void the512thCall() {
        CensusWalk walk = new CensusWalk();
        String text = STREET + "house 0 4 0 3 0 1440;walker 0 90;";
        Check.append(walk, text + " ".repeat(60 - text.length()));
        Check.same("call 4: load(60)", walk.load(60), 1);
        for (int call = 5; call < 510; call += 5) {
            Check.same("plan after " + call, walk.plan(0, 0), 1);
            Check.same("finish after " + call, walk.finish(0), 104);
            Check.same("division after " + call, walk.division(1), 104);
            Check.same("unplan after " + call, walk.unplan(0), 0);
            Check.same("finish after " + call, walk.finish(0), 90);
        }
        Check.same("call 510: undo()", walk.undo(), 7);
        Check.same("call 511: planLength(0)", walk.planLength(0), 1);
        Check.same("call 512: arrival(0, 0)", walk.arrival(0, 0), 94);
    }

    @Says(in = "Description", value = "Crossings, streets, houses and walkers have indexes from 0; streets, houses and walkers in the order of their declaration.")
    static void firstAndLastIndexes() {
        CensusWalk walk = Check.town("town 3;street 0 1 9;street 1 2 8;house 1 1 0 0 0 1;house 0 2 0 0 0 1;house 1 3 0 0 0 1;walker 2 70;walker 0 60;");
        Check.same("distanceFrom(0, 0)", walk.distanceFrom(0, 0), 10);
        Check.same("distanceFrom(2, 2)", walk.distanceFrom(2, 2), 5);
        Check.same("streetOf(0)", walk.streetOf(0), 1);
        Check.same("streetOf(1)", walk.streetOf(1), 0);
        Check.same("streetOf(2)", walk.streetOf(2), 1);
        Check.same("isOpen(0)", walk.isOpen(0), true);
        Check.same("isOpen(1)", walk.isOpen(1), true);
        Check.same("finish(0)", walk.finish(0), 70);
        Check.same("finish(1)", walk.finish(1), 60);
        for (int[] outside : new int[][] {{-1, -1, -1, -1}, {3, 2, 3, 2}}) {
            Check.index("no such crossing", () -> walk.distanceFrom(outside[0], 0));
            Check.index("no such street", () -> walk.isOpen(outside[1]));
            Check.index("no such house", () -> walk.streetOf(outside[2]));
            Check.index("no such walker", () -> walk.finish(outside[3]));
        }
    }

    @Says(in = "Description", value = "they may exceed 1440.")
    static void timesAfterMidnight() {
        CensusWalk walk = Check.town("town 2;street 0 1 99;house 0 0 0 1 0 1440;house 0 99 0 1 0 1440;walker 0 1439;visit 240;");
        walk.plan(0, 0);
        walk.plan(0, 1);
        walk.plan(0, 0);
        Check.same("arrival(0, 0)", walk.arrival(0, 0), 1439);
        Check.same("arrival(0, 1)", walk.arrival(0, 1), 1439 + 240 + 99);
        Check.same("arrival(0, 2)", walk.arrival(0, 2), 1439 + 240 + 99 + 1 + 99);
        Check.same("finish(0)", walk.finish(0), 1878);
        Check.same("finishAll()", walk.finishAll(), 1878);
        Check.same("soonest(0, 1)", walk.soonest(0, 1), 1679);
        Check.same("division(1)", walk.division(1), 1679);
    }

    @Says(in = "Description", value = "A set of houses is a bit set: bit h stands for house h.")
    static void lowestAndHighestBit() {
        CensusWalk walk = Check.town("town 2;street 0 1 20;" + houses(16) + "walker 0 50;visit 1;");
        walk.plan(0, 0);
        Check.same("house 0 alone is counted", walk.counted(), 1);
        walk.unplan(0);
        walk.plan(0, 15);
        Check.same("house 15 alone is counted", walk.counted(), 32768);
        Check.same("soonest of house 0", walk.soonest(0, 1), 51);
        Check.same("soonest of house 15", walk.soonest(0, 32768), 66);
        Check.same("the house of bit 15", walk.soonestOrder(0, 32768, 0), 15);
        Check.same("houses 0 and 15", walk.soonest(0, 32769), 67);
    }

    /** House h stands at offset h of street 0. */
    private static String houses(int count) {
        StringBuilder text = new StringBuilder();
        for (int house = 0; house < count; house++) {
            text.append("house 0 ").append(house).append(" 0 20 0 1440;");
        }
        return text.toString();
    }

    @Says(in = "Description", value = "There are 1 to 10 crossings.")
    static void numberOfCrossings() {
        Check.wrong("town 0;", RANGE, 5);
        Check.wrong("town 11;", RANGE, 5);
        Check.same("one crossing", Check.town("town 1;walker 0 5;").crossingCount(), 1);
        CensusWalk ten = Check.town("town 10;street 9 0 7;house 0 0 0 0 0 1;walker 9 5;");
        Check.same("ten crossings", ten.crossingCount(), 10);
        Check.same("distanceFrom(9, 0)", ten.distanceFrom(9, 0), 0);
        Check.same("distanceFrom(0, 0)", ten.distanceFrom(0, 0), 7);
    }

    @Says(in = "Description", value = "A street connects two different crossings, its start and its end")
    static void startAndEndOfAStreet() {
        Check.wrong("town 2;street 0 0 5;", RANGE, 16);
        Check.wrong("town 2;street 1 1 5;", RANGE, 16);
        Check.right("town 2;street 0 1 5;", 0);
        Check.right("town 2;street 1 0 5;", 0);
        Check.wrong("town 1;street 0 0 5;", RANGE, 16);
        Check.wrong("town 10;street 9 9 5;", RANGE, 17);
        Check.right("town 10;street 9 8 5;", 0);
    }

    @Says(in = "Description", value = "and has a length (1 to 99).")
    static void lengthOfAStreet() {
        Check.wrong("town 2;street 0 1 0;", RANGE, 18);
        Check.wrong("town 2;street 0 1 100;", RANGE, 18);
        CensusWalk shortest = Check.town("town 2;street 0 1 1;house 0 0 0 0 0 1;");
        Check.same("a length of 1", shortest.distanceFrom(1, 0), 1);
        CensusWalk longest = Check.town("town 2;street 0 1 99;house 0 0 0 0 0 1;");
        Check.same("a length of 99", longest.distanceFrom(1, 0), 99);
    }

    @Says(in = "Description", value = "Several streets may connect the same crossings.")
    static void severalStreets() {
        CensusWalk walk = Check.town("town 2;street 0 1 30;street 0 1 20;street 1 0 10;street 0 1 30;house 0 0 0 0 0 1;house 0 30 0 0 0 1;");
        Check.same("the shortest of four", walk.distance(0, 1), 10);
        walk.setOpen(2, false);
        Check.same("the shortest of three", walk.distance(0, 1), 20);
        walk.setOpen(1, false);
        Check.same("the house's own or its like", walk.distance(0, 1), 30);
        walk.setOpen(3, false);
        Check.same("the house's own", walk.distance(0, 1), 30);
        Check.right("town 2;" + "street 1 0 5;".repeat(12), 0);
    }

    @Says(in = "Description", value = "A street is open or closed; it is open at first.")
    static void openAtFirst() {
        String text = STREET + "street 1 0 5;house 0 0 0 0 0 1;";
        CensusWalk walk = Check.town(text);
        Check.same("isOpen(0)", walk.isOpen(0), true);
        Check.same("isOpen(1)", walk.isOpen(1), true);
        walk.setOpen(0, false);
        Check.same("isOpen(0)", walk.isOpen(0), false);
        Check.same("the other one", walk.isOpen(1), true);
        Check.load(walk, text);
        Check.same("open at first in the next town too", walk.isOpen(0), true);
    }

    @Says(in = "Description", value = "at an offset (0 to the length) from the start of the street")
    static void offsetOfAHouse() {
        CensusWalk walk = Check.town(STREET + "house 0 0 0 0 0 1;house 0 9 0 0 0 1;");
        Check.same("offset 0 from the start", walk.distanceFrom(0, 0), 0);
        Check.same("offset 0 from the end", walk.distanceFrom(1, 0), 9);
        Check.same("offset 9 from the start", walk.distanceFrom(0, 1), 9);
        Check.same("offset 9 from the end", walk.distanceFrom(1, 1), 0);
        Check.wrong(STREET + "house 0 10 0 0 0 1;", RANGE, 28);
        Check.right("town 2;street 0 1 5;street 0 1 9;house 1 9 0 0 0 1;", 1);
        Check.wrong("town 2;street 0 1 5;street 0 1 9;house 0 6 0 0 0 1;", RANGE, 41);
        Check.right("town 2;street 0 1 99;house 0 99 0 0 0 1;", 1);
        Check.wrong("town 2;street 0 1 99;house 0 100 0 0 0 1;", RANGE, 29);
    }

    @Says(in = "Description", value = "on side 0 or 1.")
    static void sideOfAHouse() {
        CensusWalk walk = Check.town(STREET + "house 0 0 0 0 0 1;house 0 0 1 0 0 1;house 0 0 1 0 0 1;cross 4;");
        Check.same("different sides", walk.distance(0, 1), 4);
        Check.same("the same side", walk.distance(1, 2), 0);
        Check.wrong(STREET + "house 0 0 2 0 0 1;", RANGE, 30);
        Check.wrong(STREET + "house 0 0 10 0 0 1;", RANGE, 30);
    }

    @Says(in = "Description", value = "It has a number of persons (0 to 20)")
    static void personsOfAHouse() {
        CensusWalk walk = Check.town(STREET + "house 0 0 0 0 0 1440;house 0 0 0 20 0 1440;walker 0 5;");
        walk.plan(0, 0);
        Check.same("0 persons", walk.persons(), 0);
        walk.plan(0, 1);
        Check.same("20 persons", walk.persons(), 20);
        Check.wrong(STREET + "house 0 0 0 21 0 1;", RANGE, 32);
    }

    @Says(in = "Description", value = "it may have a dog")
    static void dogOrNone() {
        CensusWalk walk = Check.town(STREET + "house 0 0 0 0 0 1;house 0 0 0 0 0 1 dog;house 0 0 0 0 0 1;");
        Check.same("before", walk.hasDog(0), false);
        Check.same("with a dog", walk.hasDog(1), true);
        Check.same("behind", walk.hasDog(2), false);
        Check.load(walk, STREET + "house 0 0 0 0 0 1 dog;house 0 0 0 0 0 1;");
        Check.same("in the next town", walk.hasDog(0), true);
        Check.same("in the next town", walk.hasDog(1), false);
    }

    @Says(in = "Description", value = "somebody is at home at a time t if from <= t and t < to")
    static void hoursAtTheirEnds() {
        CensusWalk walk = Check.town(STREET + "house 0 0 0 0 100 200;house 0 0 0 0 0 1;house 0 0 0 0 1439 1440;");
        atHome(walk, 0, 100, 199);
        atHome(walk, 1, 0, 0);
        atHome(walk, 2, 1439, 1439);
    }

    private static void atHome(CensusWalk walk, int house, int first, int last) {
        if (first > 0) {
            Check.same("before from", walk.isHome(house, first - 1), false);
        }
        Check.same("at from", walk.isHome(house, first), true);
        Check.same("before to", walk.isHome(house, last), true);
        Check.same("at to", walk.isHome(house, last + 1), false);
    }

    @Says(in = "Description", value = "(0 <= from < to <= 1440).")
    static void widestAndNarrowestHours() {
        Check.right(STREET + "house 0 0 0 0 0 1440;", 1);
        Check.right(STREET + "house 0 0 0 0 0 1;", 1);
        Check.right(STREET + "house 0 0 0 0 1439 1440;", 1);
        Check.right(STREET + "house 0 0 0 0 700 701;", 1);
        Check.wrong(STREET + "house 0 0 0 0 0 0;", RANGE, 36);
        Check.wrong(STREET + "house 0 0 0 0 700 700;", RANGE, 38);
        Check.wrong(STREET + "house 0 0 0 0 700 699;", RANGE, 38);
        Check.wrong(STREET + "house 0 0 0 0 0 1441;", RANGE, 36);
        Check.wrong(STREET + "house 0 0 0 0 1439 1441;", RANGE, 39);
        Check.wrong(STREET + "house 0 0 0 0 1440 1441;", RANGE, 34);
        Check.wrong(STREET + "house 0 0 0 0 1440 1440;", RANGE, 34);
        Check.wrong(STREET + "house 0 0 0 0 1441 1442;", RANGE, 34);
    }

    @Says(in = "Description", value = "Closed streets cannot be walked on, and nobody can go to or leave the houses on them.")
    static void closedStreets() {
        CensusWalk walk = Check.town("town 3;street 0 1 5;street 1 2 5;house 0 0 0 0 0 1440;house 0 5 0 0 0 1440;house 1 0 0 0 0 1440;house 1 5 0 0 0 1440;walker 0 50;walker 1 50;");
        walk.setOpen(0, false);
        Check.same("to a house at the crossing itself", walk.distanceFrom(0, 0), -1);
        Check.same("to the end of the closed street", walk.distanceFrom(1, 1), -1);
        Check.same("over the closed street", walk.distanceFrom(0, 2), -1);
        Check.same("leaving a house", walk.distance(1, 2), -1);
        Check.same("going to a house", walk.distance(2, 1), -1);
        Check.same("along the closed street", walk.distance(0, 1), -1);
        Check.same("the open street", walk.distance(2, 3), 5);
        Check.same("soonest of a closed street", walk.soonest(1, 2), -1);
        Check.same("soonest behind a closed street", walk.soonest(0, 4), -1);
        Check.same("soonest on the open street", walk.soonest(1, 8), 65);
    }

    @Says(in = "Description", value = "The distance between two crossings is the length of the shortest way along open streets.")
    static void shortestAndLongestWays() {
        StringBuilder chain = new StringBuilder("town 10;");
        for (int crossing = 0; crossing < 9; crossing++) {
            chain.append("street ").append(crossing).append(' ').append(crossing + 1).append(" 99;");
        }
        CensusWalk walk = Check.town(chain + "street 9 0 99;house 0 0 0 0 0 1;house 8 99 0 0 0 1;");
        Check.same("the crossing itself", walk.distanceFrom(0, 0), 0);
        Check.same("a ring", walk.distanceFrom(9, 0), 99);
        Check.same("half of the ring", walk.distanceFrom(5, 0), 495);
        walk.setOpen(9, false);
        Check.same("nine streets of 99", walk.distanceFrom(9, 0), 891);
        Check.same("between the houses at its ends", walk.distance(1, 0), 891);
        walk.setOpen(4, false);
        Check.same("one of the nine is closed", walk.distanceFrom(9, 0), -1);
        for (int crossing = 0; crossing < 10; crossing++) {
            over(crossing);
        }
    }

    /** Two streets that meet at one crossing lead to the street of the house, and no other way does. */
    private static void over(int crossing) {
        int from = (crossing + 1) % 10;
        int next = (crossing + 2) % 10;
        int end = (crossing + 3) % 10;
        CensusWalk walk = Check.town("town 10;street " + from + " " + crossing + " 5;street " + next + " " + crossing + " 7;street " + next + " " + end
                + " 9;house 2 1 0 0 0 1;house 0 2 0 0 0 1;");
        Check.same("from a crossing over " + crossing, walk.distanceFrom(from, 0), 13);
        Check.same("to a crossing over " + crossing, walk.distanceFrom(end, 1), 19);
        Check.same("between houses over " + crossing, walk.distance(0, 1), 11);
    }

    @Says(in = "Description", value = "The distance between a crossing c and a house is the smaller one of these two sums: the distance between c and the start of its street, plus the offset; the distance between c and the end of its street, plus the length minus the offset.")
    static void overStartOrEnd() {
        String triangle = "town 3;street 0 1 20;street 2 0 7;street 2 1 9;";
        CensusWalk walk = Check.town(triangle + "house 0 10 0 0 0 1;house 0 11 0 0 0 1;house 0 12 0 0 0 1;");
        Check.same("over the start by two", walk.distanceFrom(2, 0), 17);
        Check.same("both alike", walk.distanceFrom(2, 1), 18);
        Check.same("over the end by two", walk.distanceFrom(2, 2), 17);
        walk.setOpen(1, false);
        Check.same("over the end alone", walk.distanceFrom(2, 0), 19);
        walk.setOpen(1, true);
        walk.setOpen(2, false);
        Check.same("over the start alone", walk.distanceFrom(2, 2), 19);
    }

    @Says(in = "Description", value = "if they are on different streets, the way goes from the first house to one of the ends of its street, to one of the ends of the other street, and to the other house.")
    static void eachPairOfEnds() {
        String square = "town 4;street 0 1 50;street 2 3 50;";
        String houses = "house 0 1 0 0 0 1;house 0 49 1 0 0 1;house 1 1 1 0 0 1;house 1 49 0 0 0 1;cross 9;";
        CensusWalk sides = Check.town(square + "street 0 2 4;street 1 3 6;" + houses);
        Check.same("start to start", sides.distance(0, 2), 6);
        Check.same("end to end", sides.distance(1, 3), 8);
        CensusWalk diagonals = Check.town(square + "street 0 3 4;street 1 2 6;" + houses);
        Check.same("start to end", diagonals.distance(0, 3), 6);
        Check.same("end to start", diagonals.distance(1, 2), 8);
        CensusWalk corner = Check.town("town 3;street 0 1 5;street 1 2 5;house 0 5 0 0 0 1;house 1 0 1 0 0 1;cross 9;");
        Check.same("two houses at one crossing", corner.distance(0, 1), 0);
    }

    @Says(in = "Description", value = "If they are on the same street, it goes either directly along the street (the difference of the offsets) or over both ends of the street as before")
    static void directlyOrOverBothEnds() {
        String town = "town 3;street 0 1 40;street 0 2 6;street 2 1 4;";
        CensusWalk walk = Check.town(town + "house 0 5 0 0 0 1;house 0 29 0 0 0 1;house 0 30 0 0 0 1;house 0 31 0 0 0 1;house 0 5 0 0 0 1;");
        Check.same("directly by two", walk.distance(0, 1), 24);
        Check.same("both alike", walk.distance(0, 2), 25);
        Check.same("over both ends by two", walk.distance(0, 3), 24);
        Check.same("the same, walked back", walk.distance(3, 0), 24);
        Check.same("at the same offset", walk.distance(0, 4), 0);
    }

    @Says(in = "Description", value = "if they are on different sides, the crossing time is added to the shorter one of the two.")
    static void crossingTimeOnce() {
        String town = "town 3;street 0 1 40;street 0 2 6;street 2 1 4;house 0 5 0 0 0 1;house 0 5 1 0 0 1;house 0 31 1 0 0 1;house 0 31 0 0 0 1;cross ";
        CensusWalk nine = Check.town(town + "9;");
        Check.same("opposite houses", nine.distance(0, 1), 9);
        Check.same("over both ends", nine.distance(0, 2), 33);
        Check.same("walked back", nine.distance(2, 0), 33);
        Check.same("on side 1 alone", nine.distance(1, 2), 24);
        Check.same("on side 0 alone", nine.distance(0, 3), 24);
        CensusWalk none = Check.town(town + "0;");
        Check.same("opposite houses", none.distance(0, 1), 0);
        Check.same("over both ends", none.distance(0, 2), 24);
    }

    @Says(in = "Description", value = "The distance between a house and itself is 0, also on a closed street.")
    static void houseItself() {
        CensusWalk walk = Check.town(STREET + "house 0 3 1 0 0 1;house 0 3 1 0 0 1;cross 9;");
        Check.same("on an open street", walk.distance(0, 0), 0);
        walk.setOpen(0, false);
        Check.same("on a closed street", walk.distance(0, 0), 0);
        Check.same("on a closed street", walk.distance(1, 1), 0);
        Check.same("another house at the same place", walk.distance(0, 1), -1);
    }

    @Says(in = "Description", value = "If there is no way, there is no distance.")
    static void noWay() {
        CensusWalk walk = Check.town("town 5;street 0 1 9;street 2 3 9;house 0 3 0 0 0 1440;house 1 3 0 0 0 1440;walker 0 50;");
        Check.same("between houses", walk.distance(0, 1), -1);
        Check.same("from a crossing", walk.distanceFrom(0, 1), -1);
        Check.same("from a crossing without a street", walk.distanceFrom(4, 0), -1);
        Check.same("soonest", walk.soonest(0, 2), -1);
        walk.plan(0, 1);
        Check.same("result", walk.result(0, 0), CensusWalk.UNREACHABLE);
    }

    private static int minutes(String sum, int persons, int call) {
        return Check.town("town 2;street 0 1 9;house 0 0 0 " + persons + " 0 1;visit " + sum + ";").duration(0, call);
    }

    @Says(in = "Description", value = "The duration of a visit is the value of the visit expression, limited to the range 1 to 240.")
    static void shortestAndLongestVisit() {
        int[] values = {0, 1, 2, 239, 240, 241, 9999};
        int[] due = {1, 1, 2, 239, 240, 240, 240};
        for (int i = 0; i < values.length; i++) {
            Check.same("visit " + values[i], minutes(Integer.toString(values[i]), 0, 1), due[i]);
        }
        Check.same("visit 0-1", minutes("0-1", 0, 1), 1);
        Check.same("visit 0-9999*9999", minutes("0-9999*9999", 0, 1), 1);
        Check.same("visit 9999*9999", minutes("9999*9999", 0, 1), 240);
    }

    @Says(in = "Description", value = "In the expression, persons is the number of persons of the house, dog is 1 if the house has a dog and 0 otherwise, and call is 1 for a first call and 2 for a second call.")
    static void valuesOfTheWords() {
        Check.same("no person", minutes("persons+3", 0, 1), 3);
        Check.same("20 persons", minutes("persons+3", 20, 1), 23);
        Check.same("a first call", minutes("call*7", 0, 1), 7);
        Check.same("a second call", minutes("call*7", 0, 2), 14);
        CensusWalk walk = Check.town("town 2;street 0 1 9;house 0 0 0 0 0 1;house 0 0 0 0 0 1 dog;visit dog*7+50;");
        Check.same("no dog", walk.duration(0, 1), 50);
        Check.same("a dog", walk.duration(1, 1), 57);
    }

    @Says(in = "Description", value = "Division truncates toward zero")
    static void truncatingDivision() {
        Check.same("7/2", minutes("7/2", 0, 1), 3);
        Check.same("(0-7)/2", minutes("(0-7)/2+10", 0, 1), 7);
        Check.same("7/(0-2)", minutes("7/(0-2)+10", 0, 1), 7);
        Check.same("(0-7)/(0-2)", minutes("(0-7)/(0-2)", 0, 1), 3);
        Check.same("1/2", minutes("1/2+10", 0, 1), 10);
        Check.same("(0-1)/2", minutes("(0-1)/2+10", 0, 1), 10);
        Check.same("6/(0-2)", minutes("6/(0-2)+10", 0, 1), 7);
    }

    @Says(in = "Description", value = "division by 0 gives 0.")
    static void divisionByZero() {
        Check.same("5/0", minutes("5/0+10", 0, 1), 10);
        Check.same("0/0", minutes("0/0+10", 0, 1), 10);
        Check.same("(0-5)/0", minutes("(0-5)/0+10", 0, 1), 10);
        Check.same("5/persons without persons", minutes("5/persons+10", 0, 1), 10);
        Check.same("5/dog without a dog", minutes("5/dog+10", 0, 1), 10);
        Check.same("5/(call-1) at a first call", minutes("5/(call-1)+10", 0, 1), 10);
        Check.same("5/(call-1) at a second call", minutes("5/(call-1)+10", 0, 2), 15);
    }

    /** 9999*100 is 999900: what is left behind it tells the greatest numbers apart. */
    @Says(in = "Description", value = "The result of each operation is limited to the range -1000000 to 1000000.")
    static void limitedResults() {
        Check.same("999999", minutes("(999*1001)-9999*100-94", 0, 1), 5);
        Check.same("1000000", minutes("1000*1000-9999*100-95", 0, 1), 5);
        Check.same("1000000+1", minutes("1000*1000+1-9999*100-95", 0, 1), 5);
        Check.same("1000000-(0-1)", minutes("1000*1000-(0-1)-9999*100-95", 0, 1), 5);
        Check.same("101*9901", minutes("101*9901-9999*100-95", 0, 1), 5);
        Check.same("-999999", minutes("0-999*1001+9999*100+104", 0, 1), 5);
        Check.same("-1000000", minutes("0-1000*1000+9999*100+105", 0, 1), 5);
        Check.same("-1000000-1", minutes("0-1000*1000-1+9999*100+105", 0, 1), 5);
        Check.same("-1000000+(0-1)", minutes("0-1000*1000+(0-1)+9999*100+105", 0, 1), 5);
        Check.same("-101*9901", minutes("(0-101)*9901+9999*100+105", 0, 1), 5);
        Check.same("1000000*1000000", minutes("(1000*1000)*(1000*1000)-9999*100-95", 0, 1), 5);
        Check.same("-1000000*1000000", minutes("(0-1000*1000)*(1000*1000)+9999*100+105", 0, 1), 5);
        Check.same("1000000/(0-1)", minutes("1000*1000/(0-1)+9999*100+105", 0, 1), 5);
    }

    @Says(in = "Description", value = "Without a visit statement the duration is 10.")
    static void withoutVisit() {
        CensusWalk walk = Check.town(STREET + "house 0 0 0 20 0 1 dog;house 0 0 0 0 0 1;");
        for (int call = 1; call <= 2; call++) {
            Check.same("with persons and a dog", walk.duration(0, call), 10);
            Check.same("without", walk.duration(1, call), 10);
        }
        Check.load(walk, STREET + "house 0 0 0 20 0 1;visit 33;");
        Check.same("with a visit statement", walk.duration(0, 1), 33);
        Check.load(walk, STREET + "house 0 0 0 20 0 1;");
        Check.same("without one again", walk.duration(0, 1), 10);
    }
}
