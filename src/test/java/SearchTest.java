/** Promises 25 to 28: soonest, soonestOrder, division and walkerOf. */
public final class SearchTest {
    private static final String LINE = "town 2;street 0 1 10;house 0 2 0 1 0 1440;house 0 8 0 1 100 110;house 0 5 0 1 0 60;walker 0 50;walker 1 50;";

    public static void main(String[] args) {
        soonest();
        orders();
        firstOfSeveralOrders();
        waitingMakesUp();
        soonerOverAnotherHouse();
        noWay();
        divisions();
        firstOfSeveralDivisions();
        withoutWalkers();
        wrongSets();
        eightHouses();
        plansDoNotMatter();
        otherWays();
        Check.end();
    }

    private static void order(CensusWalk walk, int walker, int houses, int... due) {
        for (int k = 0; k < due.length; k++) {
            Check.same("soonestOrder(" + walker + ", " + houses + ", " + k + ")", walk.soonestOrder(walker, houses, k), due[k]);
        }
        Check.same("soonestOrder behind the end", walk.soonestOrder(walker, houses, due.length), -1);
        Check.same("soonestOrder far behind the end", walk.soonestOrder(walker, houses, Integer.MAX_VALUE), -1);
    }

    private static void soonest() {
        CensusWalk walk = Check.town(LINE);
        Check.same("soonest(0, 0)", walk.soonest(0, 0), 50);
        Check.same("soonest(0, 1)", walk.soonest(0, 1), 62);
        Check.same("soonest(1, 1)", walk.soonest(1, 1), 68);
        Check.same("waits until somebody is at home", walk.soonest(0, 2), 110);
        Check.same("soonest(0, 4)", walk.soonest(0, 4), 65);
        Check.same("soonest(0, 7)", walk.soonest(0, 7), 110);
        walk.setHours(2, 0, 55);
        Check.same("too late at 55", walk.soonest(0, 4), -1);
        Check.same("too late in a set", walk.soonest(0, 5), -1);
        walk.setHours(2, 0, 56);
        Check.same("in time at 55", walk.soonest(0, 4), 65);
        walk.setHours(2, 1439, 1440);
        Check.same("after midnight", walk.soonest(0, 4), 1449);
        walk.setDog(0, true);
        Check.load(walk, "town 2;street 0 1 9;house 0 3 0 4 0 1440 dog;walker 1 7;visit persons+dog*20+call*100;");
        Check.same("the duration of a first call", walk.soonest(0, 1), 7 + 6 + 124);
    }

    private static void orders() {
        CensusWalk walk = Check.town(LINE);
        order(walk, 0, 7, 2, 0, 1);
        order(walk, 0, 2, 1);
        order(walk, 0, 0);
        order(walk, 0, 3, 0, 1);
        order(walk, 1, 5, 2, 0);
        walk.setHours(2, 0, 10);
        Check.same("not possible", walk.soonestOrder(0, 4, 0), -1);
        Check.same("not possible in a set", walk.soonestOrder(0, 7, 0), -1);
        Check.same("not possible, behind the end", walk.soonestOrder(0, 7, 5), -1);
    }

    private static void firstOfSeveralOrders() {
        CensusWalk walk = Check.town("town 2;street 0 1 10;house 0 5 0 1 0 1440;house 0 5 0 1 0 1440;house 0 5 0 1 0 1440;walker 0 50;");
        order(walk, 0, 7, 0, 1, 2);
        order(walk, 0, 6, 1, 2);
        order(walk, 0, 5, 0, 2);
    }

    /** The fastest way to the first two houses is 1, 0; but as house 2 opens late, 0, 1 ends as soon and is first. */
    private static void waitingMakesUp() {
        CensusWalk walk = Check.town("town 2;street 0 1 50;house 0 20 0 1 0 1440;house 0 10 0 1 0 1440;house 0 30 0 1 500 1440;walker 0 50;");
        Check.same("soonest(0, 3)", walk.soonest(0, 3), 90);
        order(walk, 0, 3, 1, 0);
        Check.same("soonest(0, 7)", walk.soonest(0, 7), 510);
        order(walk, 0, 7, 0, 1, 2);
        walk.setHours(2, 110, 1440);
        order(walk, 0, 7, 1, 0, 2);
        walk.setHours(2, 119, 1440);
        order(walk, 0, 7, 1, 0, 2);
        walk.setHours(2, 120, 1440);
        order(walk, 0, 7, 0, 1, 2);
        walk.setHours(2, 120, 121);
        order(walk, 0, 7, 0, 1, 2);
        walk.setHours(2, 119, 120);
        order(walk, 0, 7, 1, 0, 2);
        closingTime();
    }

    /**
     * All stand at crossing 0; from house 0 straight across its street to house 1 takes 9 minutes, over house 2 round the corner
     * just the visit there: so house 1 is too late if it is next, but not if it is last.
     */
    private static void soonerOverAnotherHouse() {
        CensusWalk walk = Check.town("town 3;street 0 1 10;street 0 2 10;cross 9;visit 1;house 0 0 0 1 0 51;house 0 0 1 1 0 60;house 1 0 0 1 0 1440;walker 0 50;");
        Check.same("soonest(0, 3)", walk.soonest(0, 3), -1);
        order(walk, 0, 7, 0, 2, 1);
        Check.same("soonest(0, 7)", walk.soonest(0, 7), 53);
        Check.same("division(3)", walk.division(3), -1);
        Check.same("division(7)", walk.division(7), 53);
        Check.same("walkerOf(3, 0)", walk.walkerOf(3, 0), -1);
        Check.same("walkerOf(7, 0)", walk.walkerOf(7, 0), 0);
        walk.setHours(1, 0, 61);
        Check.same("soonest(0, 3)", walk.soonest(0, 3), 61);
        order(walk, 0, 3, 0, 1);
        order(walk, 0, 7, 0, 2, 1);
        Check.same("more houses are done sooner", walk.soonest(0, 7), 53);
        Check.same("division(3)", walk.division(3), 61);
    }

    /** House 3 opens so late that all orders end at 510, but after 0, 1 the walker is at house 2 at 120. */
    private static void closingTime() {
        CensusWalk walk = Check.town("town 2;street 0 1 50;house 0 20 0 1 0 1440;house 0 10 0 1 0 1440;house 0 30 0 1 0 120;house 0 40 0 1 500 1440;walker 0 50;");
        order(walk, 0, 15, 0, 2, 1, 3);
        walk.setHours(2, 0, 121);
        order(walk, 0, 15, 0, 1, 2, 3);
        walk.setHours(2, 0, 91);
        order(walk, 0, 15, 0, 2, 1, 3);
        walk.setHours(2, 0, 90);
        order(walk, 0, 15, 2, 0, 1, 3);
        walk.setHours(3, 500, 501);
        order(walk, 0, 15, 2, 0, 1, 3);
        Check.same("soonest(0, 15)", walk.soonest(0, 15), 510);
    }

    private static void noWay() {
        CensusWalk walk = Check.town("town 4;street 0 1 10;street 2 3 10;house 0 5 0 1 0 1440;house 1 5 0 1 0 1440;walker 0 50;walker 2 60;");
        Check.same("no way to the house", walk.soonest(0, 2), -1);
        Check.same("no way between the houses", walk.soonest(0, 3), -1);
        Check.same("division", walk.division(3), 75);
        Check.same("walkerOf(3, 0)", walk.walkerOf(3, 0), 0);
        Check.same("walkerOf(3, 1)", walk.walkerOf(3, 1), 1);
        walk.setOpen(1, false);
        Check.same("a closed street", walk.soonest(1, 2), -1);
        Check.same("division with a closed street", walk.division(3), -1);
        Check.same("walkerOf with a closed street", walk.walkerOf(3, 0), -1);
        Check.same("division of the other house", walk.division(1), 65);
    }

    private static void divisions() {
        CensusWalk walk = Check.town(LINE);
        Check.same("division(0)", walk.division(0), 0);
        Check.same("division(7)", walk.division(7), 110);
        Check.same("walkerOf(7, 0)", walk.walkerOf(7, 0), 0);
        Check.same("walkerOf(7, 1)", walk.walkerOf(7, 1), 0);
        Check.same("walkerOf(7, 2)", walk.walkerOf(7, 2), 0);
        Check.same("division(5)", walk.division(5), 65);
        Check.same("walkerOf(5, 0)", walk.walkerOf(5, 0), 0);
        Check.same("walkerOf(5, 2)", walk.walkerOf(5, 2), 1);
        Check.same("not in the set", walk.walkerOf(5, 1), -1);
        Check.same("not in the empty set", walk.walkerOf(0, 1), -1);
        walk.setHours(2, 0, 10);
        Check.same("division(4)", walk.division(4), -1);
        Check.same("walkerOf(4, 2)", walk.walkerOf(4, 2), -1);
        Check.same("walkerOf(6, 1)", walk.walkerOf(6, 1), -1);
        CensusWalk late = Check.town("town 2;street 0 1 10;house 0 5 0 1 0 1440;walker 0 1000;walker 0 20;");
        Check.same("a walker without houses does not count", late.division(1), 35);
        Check.same("walkerOf(1, 0)", late.walkerOf(1, 0), 1);
    }

    private static void firstOfSeveralDivisions() {
        CensusWalk walk = Check.town("town 2;street 0 1 10;" + "house 0 5 0 1 0 1440;".repeat(5) + "walker 0 50;walker 1 50;walker 0 50;");
        Check.same("division(31)", walk.division(31), 75);
        int[] due = {0, 0, 1, 1, 2};
        for (int house = 0; house < 5; house++) {
            Check.same("walkerOf(31, " + house + ")", walk.walkerOf(31, house), due[house]);
        }
        Check.same("division(26)", walk.division(26), 65);
        Check.same("walkerOf(26, 1)", walk.walkerOf(26, 1), 0);
        Check.same("walkerOf(26, 3)", walk.walkerOf(26, 3), 1);
        Check.same("walkerOf(26, 4)", walk.walkerOf(26, 4), 2);
        Check.same("walkerOf(26, 0)", walk.walkerOf(26, 0), -1);
    }

    private static void withoutWalkers() {
        CensusWalk walk = Check.town("town 2;street 0 1 10;house 0 5 0 1 0 1440;");
        Check.same("division(0)", walk.division(0), 0);
        Check.same("division(1)", walk.division(1), -1);
        Check.same("walkerOf(1, 0)", walk.walkerOf(1, 0), -1);
        Check.index("soonest(0, 0)", () -> walk.soonest(0, 0));
        Check.index("soonest(0, 2), the walker first", () -> walk.soonest(0, 2));
    }

    private static void wrongSets() {
        CensusWalk walk = Check.town("town 2;street 0 1 10;" + "house 0 5 0 1 0 1440;".repeat(10) + "walker 0 50;");
        for (int bad : new int[] {1024, 1025, 511, 1023, -1, Integer.MIN_VALUE, Integer.MAX_VALUE, 1 << 16, 1 << 31 | 1}) {
            Check.argument("soonest(0, " + bad + ")", () -> walk.soonest(0, bad));
            Check.argument("soonestOrder(0, " + bad + ", 0)", () -> walk.soonestOrder(0, bad, 0));
            Check.argument("division(" + bad + ")", () -> walk.division(bad));
            Check.argument("walkerOf(" + bad + ", 0)", () -> walk.walkerOf(bad, 0));
            Check.index("soonest(1, " + bad + "), the walker first", () -> walk.soonest(1, bad));
            Check.index("soonestOrder(-1, " + bad + ", -1), the walker first", () -> walk.soonestOrder(-1, bad, -1));
            Check.index("walkerOf(" + bad + ", 10), the house first", () -> walk.walkerOf(bad, 10));
        }
        Check.argument("soonestOrder(0, 1, -1)", () -> walk.soonestOrder(0, 1, -1));
        Check.argument("soonestOrder(0, 0, min)", () -> walk.soonestOrder(0, 0, Integer.MIN_VALUE));
        Check.index("soonestOrder(1, 1, 0)", () -> walk.soonestOrder(1, 1, 0));
        Check.index("walkerOf(1, -1)", () -> walk.walkerOf(1, -1));
        Check.index("walkerOf(1, 10)", () -> walk.walkerOf(1, 10));
        Check.same("eight houses", walk.soonest(0, 0x3FC), 135);
        CensusWalk full = Check.town("town 2;street 0 1 10;" + "house 0 5 0 1 0 1440;".repeat(16) + "walker 0 50;");
        Check.same("the highest house", full.soonest(0, 1 << 15), 65);
        Check.argument("behind the highest house", () -> full.soonest(0, 1 << 16));
    }

    /** Eight houses among sixteen, with hours that make the order matter, against the model. */
    private static void eightHouses() {
        for (int seed = 0; seed < 12; seed++) {
            StringBuilder text = new StringBuilder("town 4;street 0 1 30;street 1 2 40;street 2 0 20;street 2 3 9;visit persons+2;cross 4;");
            for (int house = 0; house < 16; house++) {
                int mix = (house + 1) * (seed * 37 + 11) * 7919;
                int from = 30 + mix % 97;
                text.append("house ").append(mix % 4).append(' ').append(mix % 10).append(' ').append(mix % 2).append(' ')
                        .append(mix % 13).append(' ').append(from).append(' ').append(from + 60 + mix % 241).append(';');
            }
            text.append("walker 0 40;walker 3 45;walker 1 20;");
            String twenties = text.append(" ".repeat((20 - text.length() % 20) % 20)).toString();
            CensusWalk walk = Check.town(twenties);
            Model model = new Model();
            for (int at = 0; at < twenties.length(); at += 20) {
                model.append(twenties.substring(at, at + 20));
            }
            model.load(twenties.length());
            compareEight(walk, model, 0x5A5A >> seed % 3 & 0xFFFF);
        }
    }

    private static void compareEight(CensusWalk walk, Model model, int set) {
        for (int walker = 0; walker < 3; walker++) {
            Check.same("soonest of eight", walk.soonest(walker, set), model.soonest(walker, set));
            for (int k = 0; k <= 8; k += 2) {
                Check.same("soonestOrder of eight", walk.soonestOrder(walker, set, k), model.soonestOrder(walker, set, k));
            }
        }
        Check.same("division of eight", walk.division(set), model.division(set));
        for (int house = 0; house < 16; house += 5) {
            Check.same("walkerOf of eight", walk.walkerOf(set, house), model.walkerOf(set, house));
        }
    }

    private static void plansDoNotMatter() {
        CensusWalk walk = Check.town(LINE);
        walk.plan(0, 0);
        walk.plan(0, 2);
        walk.plan(1, 1);
        Check.same("soonest(0, 7)", walk.soonest(0, 7), 110);
        Check.same("division(5)", walk.division(5), 65);
        long before = walk.checksum();
        walk.division(7);
        walk.soonestOrder(0, 7, 0);
        Check.same("searching changes nothing", walk.checksum(), before);
        Check.same("searching is no change", walk.undo(), 3);
    }

    /** Closing street 1 leaves both houses open, but walker 0 comes from the other side then, and later. */
    private static void otherWays() {
        String text = "town 3;street 0 1 10;street 2 1 1;street 2 0 30;house 0 1 0 1 0 1440;house 0 9 0 1 0 1440;walker 2 50;walker 0 59;";
        CensusWalk order = Check.town(text);
        order(order, 0, 3, 1, 0);
        order.setOpen(1, false);
        order(order, 0, 3, 0, 1);
        CensusWalk soonest = Check.town(text);
        Check.same("soonest(0, 2)", soonest.soonest(0, 2), 62);
        soonest.setOpen(1, false);
        Check.same("soonest(0, 2)", soonest.soonest(0, 2), 99);
        CensusWalk division = Check.town(text);
        Check.same("division(2)", division.division(2), 62);
        division.setOpen(1, false);
        Check.same("division(2)", division.division(2), 78);
        CensusWalk walker = Check.town(text);
        Check.same("walkerOf(2, 1)", walker.walkerOf(2, 1), 0);
        walker.setOpen(1, false);
        Check.same("walkerOf(2, 1)", walker.walkerOf(2, 1), 1);
        walker.undo();
        Check.same("walkerOf(2, 1)", walker.walkerOf(2, 1), 0);
    }
}
