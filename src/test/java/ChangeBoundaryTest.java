import java.util.ArrayDeque;
import java.util.Deque;
import java.util.List;

/** The boundary cases that the document names for changes, for the changing methods (29 to 33) and for undo (34). */
public final class ChangeBoundaryTest {
    private static final int[] NO_INDEX = {-1, 100, Integer.MIN_VALUE, Integer.MAX_VALUE};
    private static final String TOWN = "town 3;street 0 1 10;street 1 2 9;house 0 4 0 3 0 1440;house 1 5 1 2 0 100 dog;walker 0 90;walker 2 95;";

    public static void main(String[] args) throws IllegalAccessException {
        Boundaries.run(ChangeBoundaryTest.class);
    }

    private static void same(String what, CensusWalk walk, List<Long> due) {
        Check.same(what, Snapshot.of(walk).equals(due), true);
    }

    @Says(in = "Description", value = "The changing methods are load (when it succeeds), plan, unplan, setHours, setDog and setOpen.")
    static void theChangingMethods() {
        undone("load", walk -> Check.load(walk, "town 1;"));
        undone("plan", walk -> walk.plan(1, 1));
        undone("unplan", walk -> walk.unplan(0));
        undone("setHours", walk -> walk.setHours(0, 1000, 1001));
        undone("setDog", walk -> walk.setDog(0, true));
        undone("setOpen", walk -> walk.setOpen(0, false));
        CensusWalk walk = changed();
        Check.load(walk, "town 0;");
        Check.load(walk, "");
        Snapshot.of(walk);
        walk.append(0, 0, 0, 0, 0);
        Check.same("a load with an error, questions and append are no changes", walk.undo(), 1);
        Check.same("the plan was the latest change", walk.planLength(0), 0);
    }

    private interface Change {
        void make(CensusWalk walk);
    }

    private static CensusWalk changed() {
        CensusWalk walk = Check.town(TOWN);
        walk.plan(0, 0);
        return walk;
    }

    private static void undone(String name, Change change) {
        CensusWalk walk = changed();
        List<Long> before = Snapshot.of(walk);
        change.make(walk);
        Check.same(name + " changes the data", Snapshot.of(walk).equals(before), false);
        Check.same("undo() of " + name, walk.undo(), 2);
        same("all is as before " + name, walk, before);
    }

    @Says(in = "Description", value = "A call counts as a change also if it changes no data.")
    static void changesOfNoData() {
        unchanged("setDog", walk -> walk.setDog(0, false));
        unchanged("setDog", walk -> walk.setDog(1, true));
        unchanged("setOpen", walk -> walk.setOpen(0, true));
        unchanged("setHours", walk -> walk.setHours(1, 0, 100));
        CensusWalk walk = Check.town(TOWN);
        Check.load(walk, TOWN);
        Check.same("undo() of the same load again", walk.undo(), 1);
        Check.same("undo() of the first load", walk.undo(), 0);
    }

    private static void unchanged(String name, Change change) {
        CensusWalk walk = changed();
        List<Long> before = Snapshot.of(walk);
        change.make(walk);
        same(name + " changes no data", walk, before);
        Check.same("undo() of " + name, walk.undo(), 2);
        same("all is as before " + name, walk, before);
    }

    @Says(in = "Description", value = "The latest 8 changes that have not been undone can be undone, the latest one first.")
    static void eightChanges() {
        for (int changes = 1; changes <= 20; changes++) {
            CensusWalk walk = Check.town("town 1;");
            for (int i = 2; i <= changes; i++) {
                Check.load(walk, "town " + (i % 10 + 1) + ";");
            }
            int most = Math.min(changes, 8);
            for (int left = most - 1; left >= 0; left--) {
                int still = changes - most + left;
                Check.same(changes + " changes, undo()", walk.undo(), left);
                Check.same(changes + " changes, the town then", walk.crossingCount(), still == 0 ? 0 : still == 1 ? 1 : still % 10 + 1);
            }
            Check.same(changes + " changes, nothing is left", walk.undo(), -1);
        }
        changesBetweenUndos();
    }

    /** More changes and fewer undos each time, so that the kept towns go round in every way. */
    private static void changesBetweenUndos() {
        CensusWalk walk = Check.town(TOWN);
        Deque<Integer> lengths = new ArrayDeque<>();
        for (int i = 0; i < 8; i++) {
            lengths.push(0);
            walk.setDog(0, i % 2 == 0);
        }
        for (int round = 0; round < 12; round++) {
            for (int i = 0; i <= round; i++) {
                lengths.push(walk.planLength(0));
                if (walk.planLength(0) < 12) {
                    walk.plan(0, 0);
                } else {
                    walk.unplan(0);
                }
            }
            while (lengths.size() > 8) {
                lengths.removeLast();
            }
            for (int i = round; i < 12; i++) {
                boolean none = lengths.isEmpty();
                int due = none ? walk.planLength(0) : lengths.pop();
                Check.same("round " + round + ", undo()", walk.undo(), none ? -1 : lengths.size());
                Check.same("round " + round + ", planLength(0)", walk.planLength(0), due);
            }
        }
    }

    @Says(in = "Description", value = "Before the first successful load there are no crossings, streets, houses and walkers.")
    static void beforeTheFirstLoad() {
        CensusWalk walk = new CensusWalk();
        nothing(walk);
        Check.load(walk, TOWN + "x");
        Check.same("errorOffset()", walk.errorOffset(), TOWN.length());
        nothing(walk);
        Check.load(walk, TOWN);
        walk.undo();
        nothing(walk);
    }

    private static void nothing(CensusWalk walk) {
        Check.same("crossings", walk.crossingCount(), 0);
        Check.same("streets", walk.streetCount(), 0);
        Check.same("houses", walk.houseCount(), 0);
        Check.same("walkers", walk.walkerCount(), 0);
        Check.index("distance(0, 0)", () -> walk.distance(0, 0));
        Check.index("distanceFrom(0, 0)", () -> walk.distanceFrom(0, 0));
        Check.index("isOpen(0)", () -> walk.isOpen(0));
        Check.index("hasDog(0)", () -> walk.hasDog(0));
        Check.index("isHome(0, 10000)", () -> walk.isHome(0, 10000));
        Check.index("finish(0)", () -> walk.finish(0));
        Check.index("soonest(0, 0)", () -> walk.soonest(0, 0));
        Check.index("plan(0, 0)", () -> walk.plan(0, 0));
        Check.index("unplan(0)", () -> walk.unplan(0));
        Check.index("setHours(0, 0, 1)", () -> walk.setHours(0, 0, 1));
        Check.index("setDog(0, true)", () -> walk.setDog(0, true));
        Check.index("setOpen(0, true)", () -> walk.setOpen(0, true));
        Check.argument("division(1)", () -> walk.division(1));
        Check.same("division(0)", walk.division(0), 0);
        Check.same("checksum()", walk.checksum(), 0);
    }

    @Says(in = "Description", value = "A method that throws an exception changes nothing.")
    static void whatThrowsChangesNothing() {
        CensusWalk walk = Check.town(TOWN);
        for (int k = 0; k < 12; k++) {
            walk.plan(0, k % 2);
        }
        Check.load(walk, "town 2;gap 9999;");
        Check.append(walk, "town 7;");
        List<Long> before = Snapshot.of(walk);
        Check.argument("load(-1)", () -> walk.load(-1));
        Check.argument("load(21)", () -> walk.load(21));
        Check.state("plan(0, 0)", () -> walk.plan(0, 0));
        Check.state("unplan(1)", () -> walk.unplan(1));
        Check.argument("setHours(0, 5, 5)", () -> walk.setHours(0, 5, 5));
        Check.argument("setHours(0, 5, 1441)", () -> walk.setHours(0, 5, 1441));
        Check.argument("isHome(0, -1)", () -> walk.isHome(0, -1));
        Check.argument("duration(0, 3)", () -> walk.duration(0, 3));
        Check.argument("soonest(0, 4)", () -> walk.soonest(0, 4));
        Check.argument("soonestOrder(0, 1, -1)", () -> walk.soonestOrder(0, 1, -1));
        Check.argument("division(4)", () -> walk.division(4));
        Check.argument("walkerOf(4, 0)", () -> walk.walkerOf(4, 0));
        wrongIndexes(walk);
        same("all is as before", walk, before);
        Check.same("errorOffset()", walk.errorOffset(), 11);
        Check.same("undo() after all of them", walk.undo(), 7);
        Check.same("the latest change was the twelfth plan", walk.planLength(0), 11);
        Check.same("the buffer is as before", walk.load(20), 0);
        Check.same("crossingCount()", walk.crossingCount(), 7);
    }

    private static void wrongIndexes(CensusWalk walk) {
        for (int bad : NO_INDEX) {
            Check.index("plan, walker", () -> walk.plan(bad, 0));
            Check.index("plan, house", () -> walk.plan(1, bad));
            Check.index("unplan", () -> walk.unplan(bad));
            Check.index("setHours", () -> walk.setHours(bad, 1, 2));
            Check.index("setDog", () -> walk.setDog(bad, true));
            Check.index("setOpen", () -> walk.setOpen(bad, false));
            Check.index("distance", () -> walk.distance(0, bad));
            Check.index("planned", () -> walk.planned(0, bad));
            Check.index("result", () -> walk.result(bad, 0));
            Check.index("calls", () -> walk.calls(bad));
            Check.index("walkerOf", () -> walk.walkerOf(1, bad));
        }
    }

    @Says(in = "Promise 29", value = "Returns the number of houses in the plan then.")
    static void lengthsOfAPlan() {
        CensusWalk walk = Check.town(TOWN);
        for (int length = 1; length <= 12; length++) {
            Check.same("plan(0, 1)", walk.plan(0, 1), length);
        }
        Check.same("plan(1, 1), another plan", walk.plan(1, 1), 1);
    }

    @Says(in = "Promise 29", value = "Throws `IndexOutOfBoundsException` if the walker or the house does not exist (checked first)")
    static void planOfNobody() {
        CensusWalk walk = Check.town(TOWN);
        for (int k = 0; k < 12; k++) {
            walk.plan(0, 0);
        }
        for (int bad : new int[] {-1, 2, 16, Integer.MIN_VALUE, Integer.MAX_VALUE}) {
            Check.index("plan(" + bad + ", 0)", () -> walk.plan(bad, 0));
            Check.index("plan(1, " + bad + ")", () -> walk.plan(1, bad));
            Check.index("plan(0, " + bad + "), the plan is full", () -> walk.plan(0, bad));
            Check.index("plan(" + bad + ", " + bad + ")", () -> walk.plan(bad, bad));
        }
        Check.same("plan(1, 1), the last ones", walk.plan(1, 1), 1);
    }

    @Says(in = "Promise 29", value = "Throws `IllegalStateException` if the plan has 12 houses")
    static void fullPlan() {
        CensusWalk walk = Check.town(TOWN);
        for (int k = 0; k < 11; k++) {
            walk.plan(0, 0);
        }
        Check.same("the twelfth", walk.plan(0, 1), 12);
        Check.state("the thirteenth", () -> walk.plan(0, 1));
        Check.same("planLength(0)", walk.planLength(0), 12);
        walk.unplan(0);
        Check.same("the twelfth again", walk.plan(0, 0), 12);
        Check.state("the thirteenth again", () -> walk.plan(0, 1));
        Check.same("planned(0, 11)", walk.planned(0, 11), 0);
    }

    @Says(in = "Promise 30", value = "Removes the last house from the plan of a walker.")
    static void lastHouse() {
        CensusWalk walk = Check.town(TOWN);
        for (int k = 0; k < 12; k++) {
            walk.plan(0, k % 2);
            walk.plan(1, 1);
        }
        for (int k = 11; k >= 0; k--) {
            Check.same("unplan(0)", walk.unplan(0), k % 2);
            Check.same("planLength(0)", walk.planLength(0), k);
        }
        Check.same("the other plan", walk.planLength(1), 12);
        Check.same("finish of the empty plan", walk.finish(0), 90);
    }

    @Says(in = "Promise 30", value = "Throws `IndexOutOfBoundsException` if there is no such walker (checked first)")
    static void unplanOfNobody() {
        CensusWalk walk = Check.town(TOWN);
        for (int bad : new int[] {-1, 2, 3, Integer.MIN_VALUE, Integer.MAX_VALUE}) {
            Check.index("unplan(" + bad + ")", () -> walk.unplan(bad));
        }
        Check.index("unplan(0) without walkers", () -> Check.town("town 1;").unplan(0));
    }

    @Says(in = "Promise 30", value = "Throws `IllegalStateException` if the plan is empty")
    static void emptyPlan() {
        CensusWalk walk = Check.town(TOWN);
        Check.state("unplan(0)", () -> walk.unplan(0));
        walk.plan(0, 1);
        Check.state("unplan(1), the other one", () -> walk.unplan(1));
        Check.same("unplan(0)", walk.unplan(0), 1);
        Check.state("unplan(0)", () -> walk.unplan(0));
    }

    private static void hours(int from, int to) {
        CensusWalk walk = Check.town(TOWN);
        Check.same("setHours(0, " + from + ", " + to + ")", walk.setHours(0, from, to), 0);
        Check.same("isHome at from", walk.isHome(0, from), true);
        Check.same("isHome before to", walk.isHome(0, to - 1), true);
        Check.same("isHome at to", walk.isHome(0, to), false);
        Check.same("isHome before from", from > 0 && walk.isHome(0, from - 1), false);
    }

    @Says(in = "Promise 31", value = "`from`: 0 to 1439")
    static void leastAndGreatestFrom() {
        hours(0, 1440);
        hours(1439, 1440);
        CensusWalk walk = Check.town(TOWN);
        Check.argument("setHours(0, -1, 5)", () -> walk.setHours(0, -1, 5));
        Check.argument("setHours(0, 1440, 1440)", () -> walk.setHours(0, 1440, 1440));
        Check.argument("setHours(0, 1440, 1441)", () -> walk.setHours(0, 1440, 1441));
    }

    @Says(in = "Promise 31", value = "`to`: from + 1 to 1440")
    static void leastAndGreatestTo() {
        hours(0, 1);
        hours(700, 701);
        hours(700, 1440);
        CensusWalk walk = Check.town(TOWN);
        Check.argument("setHours(0, 0, 0)", () -> walk.setHours(0, 0, 0));
        Check.argument("setHours(0, 700, 700)", () -> walk.setHours(0, 700, 700));
        Check.argument("setHours(0, 700, 1441)", () -> walk.setHours(0, 700, 1441));
    }

    @Says(in = "Promise 31", value = "Returns the number of counted houses in the simulation then.")
    static void countedThen() {
        CensusWalk walk = Check.town(TOWN);
        Check.same("empty plans", walk.setHours(0, 0, 1440), 0);
        walk.plan(0, 0);
        walk.plan(1, 1);
        Check.same("one of two, the other one too late", walk.setHours(1, 0, 99), 1);
        Check.same("none of two", walk.setHours(0, 0, 94), 0);
        Check.same("one of two, at the last minute", walk.setHours(0, 0, 95), 1);
        Check.same("both", walk.setHours(1, 99, 100), 2);
        CensusWalk all = Check.town("town 2;street 0 1 9;" + "house 0 0 0 20 0 1440;".repeat(16) + "walker 0 5;walker 0 5;");
        for (int house = 0; house < 16; house++) {
            all.plan(house / 8, house);
        }
        Check.same("sixteen", all.setHours(15, 0, 1440), 16);
        Check.same("fifteen", all.setHours(15, 0, 1), 15);
    }

    @Says(in = "Promise 31", value = "Throws `IndexOutOfBoundsException` if there is no such house (checked first)")
    static void hoursOfNoHouse() {
        CensusWalk walk = Check.town(TOWN);
        for (int bad : new int[] {-1, 2, 16, Integer.MIN_VALUE, Integer.MAX_VALUE}) {
            Check.index("setHours(" + bad + ", 0, 1)", () -> walk.setHours(bad, 0, 1));
            Check.index("setHours(" + bad + ", -1, 0), the house first", () -> walk.setHours(bad, -1, 0));
            Check.index("setHours(" + bad + ", 0, 1441), the house first", () -> walk.setHours(bad, 0, 1441));
        }
    }

    @Says(in = "Promise 31", value = "Throws `IllegalArgumentException` if from or to is out of range")
    static void hoursOutOfRange() {
        CensusWalk walk = Check.town(TOWN);
        int[][] wrong = {{-1, 5}, {Integer.MIN_VALUE, 5}, {1440, 1441}, {Integer.MAX_VALUE, Integer.MIN_VALUE},
            {Integer.MAX_VALUE, Integer.MAX_VALUE}, {5, 5}, {5, 4}, {5, -1}, {5, 1441}, {5, Integer.MAX_VALUE}, {-2, -1}};
        for (int[] hours : wrong) {
            Check.argument("setHours(1, " + hours[0] + ", " + hours[1] + ")", () -> walk.setHours(1, hours[0], hours[1]));
        }
        Check.same("isHome(1, 99)", walk.isHome(1, 99), true);
        Check.same("isHome(1, 100)", walk.isHome(1, 100), false);
    }

    @Says(in = "Promise 32", value = "Returns whether it had one.")
    static void hadADog() {
        CensusWalk walk = Check.town(TOWN);
        Check.same("none, one comes", walk.setDog(0, true), false);
        Check.same("one, one stays", walk.setDog(0, true), true);
        Check.same("one, it goes", walk.setDog(0, false), true);
        Check.same("none, none comes", walk.setDog(0, false), false);
        Check.same("the other house", walk.setDog(1, true), true);
    }

    @Says(in = "Promise 32", value = "Throws `IndexOutOfBoundsException` if there is no such house")
    static void dogOfNoHouse() {
        CensusWalk walk = Check.town(TOWN);
        for (int bad : new int[] {-1, 2, 16, Integer.MIN_VALUE, Integer.MAX_VALUE}) {
            Check.index("setDog(" + bad + ", true)", () -> walk.setDog(bad, true));
            Check.index("setDog(" + bad + ", false)", () -> walk.setDog(bad, false));
        }
    }

    @Says(in = "Promise 33", value = "Returns whether it was open.")
    static void wasOpen() {
        CensusWalk walk = Check.town(TOWN);
        Check.same("open, stays open", walk.setOpen(1, true), true);
        Check.same("open, closes", walk.setOpen(1, false), true);
        Check.same("closed, stays closed", walk.setOpen(1, false), false);
        Check.same("closed, opens", walk.setOpen(1, true), false);
        Check.same("the other street", walk.setOpen(0, true), true);
    }

    @Says(in = "Promise 33", value = "Throws `IndexOutOfBoundsException` if there is no such street")
    static void noStreet() {
        CensusWalk walk = Check.town(TOWN);
        for (int bad : new int[] {-1, 2, 12, Integer.MIN_VALUE, Integer.MAX_VALUE}) {
            Check.index("setOpen(" + bad + ", true)", () -> walk.setOpen(bad, true));
            Check.index("setOpen(" + bad + ", false)", () -> walk.setOpen(bad, false));
        }
    }

    @Says(in = "Promise 34", value = "Undoes the latest change that has not been undone.")
    static void latestNotUndone() {
        CensusWalk walk = Check.town(TOWN);
        walk.setDog(0, true);
        walk.setOpen(0, false);
        walk.undo();
        walk.plan(0, 0);
        Check.same("undo() of plan", walk.undo(), 2);
        Check.same("planLength(0)", walk.planLength(0), 0);
        Check.same("undo() of setDog, setOpen is undone already", walk.undo(), 1);
        Check.same("hasDog(0)", walk.hasDog(0), false);
        Check.same("isOpen(0)", walk.isOpen(0), true);
        Check.same("undo() of load", walk.undo(), 0);
        Check.same("houseCount()", walk.houseCount(), 0);
        CensusWalk other = Check.town(TOWN);
        other.plan(0, 0);
        other.unplan(0);
        other.plan(0, 1);
        other.undo();
        Check.same("undo() of unplan", other.undo(), 2);
        Check.same("the house of before", other.planned(0, 0), 0);
    }

    @Says(in = "Promise 34", value = "The input buffer and the error offset are not affected.")
    static void bufferAndErrorOffsetStay() {
        CensusWalk walk = Check.town(TOWN);
        Check.load(walk, "town 2;gap 601;");
        Check.append(walk, "town 9;");
        Check.same("undo()", walk.undo(), 0);
        Check.same("errorOffset()", walk.errorOffset(), 11);
        Check.same("the buffer grows on", walk.append(0, 0, 0, 0, 0), 40);
        Check.same("load(7)", walk.load(7), 0);
        Check.same("crossingCount()", walk.crossingCount(), 9);
        Check.same("undo() of a load", walk.undo(), 0);
        Check.same("the error offset of before does not come back", walk.errorOffset(), -1);
        Check.argument("nor does the buffer", () -> walk.load(1));
        walk.append(0, 0, 0, 0, 0);
        Check.same("undo() of nothing", walk.undo(), -1);
        Check.same("the buffer stays", walk.append(0, 0, 0, 0, 0), 40);
    }

    @Says(in = "Promise 34", value = "Returns the number of changes that can still be undone; -1 if there was none to undo, and nothing changes then.")
    static void noneToUndo() {
        CensusWalk walk = new CensusWalk();
        Check.same("undo() of a new object", walk.undo(), -1);
        Check.same("undo() again", walk.undo(), -1);
        Check.load(walk, TOWN);
        for (int i = 0; i < 8; i++) {
            walk.plan(0, 0);
        }
        for (int left = 7; left >= 0; left--) {
            Check.same("undo()", walk.undo(), left);
        }
        List<Long> before = Snapshot.of(walk);
        Check.same("the load is the ninth", walk.undo(), -1);
        same("nothing changes", walk, before);
        Check.same("houseCount()", walk.houseCount(), 2);
        walk.plan(0, 1);
        Check.same("undo() of one more change", walk.undo(), 0);
        same("all is as before it", walk, before);
        Check.same("undo() of nothing", walk.undo(), -1);
    }
}
