/** Promises 34 and 35: undo and checksum. */
public final class UndoTest {
    private static final String TOWN = "town 3;street 0 1 10;street 1 2 9;house 0 4 0 3 0 1440;house 1 5 1 2 0 100 dog;walker 0 90;walker 2 95;";

    public static void main(String[] args) {
        eachKind();
        eightChanges();
        changesAfterUndo();
        whatIsNoChange();
        loads();
        overwrittenPlans();
        buffer();
        checksum();
        Check.end();
    }

    private static void eachKind() {
        CensusWalk walk = Check.town(TOWN);
        walk.plan(0, 0);
        walk.plan(0, 1);
        Check.same("undo() of plan", walk.undo(), 2);
        Check.same("planLength(0)", walk.planLength(0), 1);
        walk.unplan(0);
        Check.same("undo() of unplan", walk.undo(), 2);
        Check.same("planned(0, 0)", walk.planned(0, 0), 0);
        Check.same("counted()", walk.counted(), 1);
        walk.setHours(0, 5, 6);
        Check.same("counted()", walk.counted(), 0);
        Check.same("undo() of setHours", walk.undo(), 2);
        Check.same("isHome(0, 0)", walk.isHome(0, 0), true);
        Check.same("isHome(0, 1439)", walk.isHome(0, 1439), true);
        Check.same("counted()", walk.counted(), 1);
        walk.setDog(1, false);
        Check.same("undo() of setDog", walk.undo(), 2);
        Check.same("hasDog(1)", walk.hasDog(1), true);
        walk.setOpen(0, false);
        Check.same("distanceFrom(0, 0)", walk.distanceFrom(0, 0), -1);
        Check.same("undo() of setOpen", walk.undo(), 2);
        Check.same("isOpen(0)", walk.isOpen(0), true);
        Check.same("distanceFrom(0, 0)", walk.distanceFrom(0, 0), 4);
        Check.same("undo() of plan", walk.undo(), 1);
        Check.same("planLength(0)", walk.planLength(0), 0);
        Check.same("undo() of load", walk.undo(), 0);
        Check.same("crossingCount()", walk.crossingCount(), 0);
        Check.same("streetCount()", walk.streetCount(), 0);
        Check.same("houseCount()", walk.houseCount(), 0);
        Check.same("walkerCount()", walk.walkerCount(), 0);
        Check.same("undo() of nothing", walk.undo(), -1);
        Check.same("undo() of nothing", walk.undo(), -1);
    }

    private static void eightChanges() {
        CensusWalk walk = Check.town(TOWN);
        for (int i = 0; i < 11; i++) {
            walk.plan(0, i % 2);
        }
        for (int left = 7; left >= 0; left--) {
            Check.same("undo()", walk.undo(), left);
            Check.same("planLength(0)", walk.planLength(0), left + 3);
        }
        Check.same("undo() of the ninth", walk.undo(), -1);
        Check.same("planLength(0)", walk.planLength(0), 3);
        Check.same("planned(0, 2)", walk.planned(0, 2), 0);
    }

    private static void changesAfterUndo() {
        CensusWalk walk = Check.town(TOWN);
        for (int i = 0; i < 9; i++) {
            walk.plan(0, 0);
        }
        Check.same("undo()", walk.undo(), 7);
        Check.same("undo()", walk.undo(), 6);
        Check.same("undo()", walk.undo(), 5);
        walk.setDog(0, true);
        Check.same("undo() of the new change", walk.undo(), 5);
        Check.same("hasDog(0)", walk.hasDog(0), false);
        for (int i = 0; i < 4; i++) {
            walk.plan(1, 1);
        }
        Check.same("undo() of eight again", walk.undo(), 7);
        for (int left = 6; left >= 0; left--) {
            Check.same("undo()", walk.undo(), left);
        }
        Check.same("planLength(0)", walk.planLength(0), 2);
        Check.same("planLength(1)", walk.planLength(1), 0);
        Check.same("undo()", walk.undo(), -1);
    }

    private static void whatIsNoChange() {
        CensusWalk walk = Check.town(TOWN);
        walk.setDog(0, false);
        Check.same("a call that changes no data is a change", walk.undo(), 1);
        walk.setOpen(0, true);
        Check.same("a call that changes no data is a change", walk.undo(), 1);
        walk.setHours(0, 0, 1440);
        Check.same("a call that changes no data is a change", walk.undo(), 1);
        Check.state("unplan(0)", () -> walk.unplan(0));
        Check.index("plan(0, 2)", () -> walk.plan(0, 2));
        Check.index("setOpen(2, true)", () -> walk.setOpen(2, true));
        Check.index("setDog(2, true)", () -> walk.setDog(2, true));
        Check.argument("setHours(0, 1, 1)", () -> walk.setHours(0, 1, 1));
        Check.load(walk, "town 3;x");
        Check.argument("load(1)", () -> walk.load(1));
        Check.same("what fails is no change", walk.undo(), 0);
    }

    private static void loads() {
        CensusWalk walk = Check.town(TOWN + "cross 3;gap 5;visit 33;");
        walk.plan(1, 1);
        walk.plan(1, 0);
        long before = walk.checksum();
        Check.load(walk, "town 2;street 0 1 5;house 0 0 0 1 0 1;");
        Check.same("planned by nobody", walk.walkerCount(), 0);
        Check.same("undo() of load", walk.undo(), 3);
        Check.same("checksum()", walk.checksum(), before);
        Check.same("planned(1, 0)", walk.planned(1, 0), 1);
        Check.same("duration(0, 1)", walk.duration(0, 1), 33);
        Check.same("streetCount()", walk.streetCount(), 2);
        Check.same("crossingCount()", walk.crossingCount(), 3);
        for (int i = 0; i < 10; i++) {
            Check.load(walk, "town " + (i + 1) + ";");
        }
        for (int left = 7; left >= 0; left--) {
            Check.same("undo() of load", walk.undo(), left);
            Check.same("crossingCount()", walk.crossingCount(), left + 2);
        }
        Check.same("undo()", walk.undo(), -1);
    }

    private static void overwrittenPlans() {
        CensusWalk walk = Check.town(TOWN);
        walk.plan(1, 0);
        walk.plan(1, 1);
        walk.unplan(1);
        walk.unplan(1);
        walk.plan(1, 1);
        walk.plan(1, 0);
        for (int i = 0; i < 4; i++) {
            walk.undo();
        }
        Check.same("planLength(1)", walk.planLength(1), 2);
        Check.same("planned(1, 0)", walk.planned(1, 0), 0);
        Check.same("planned(1, 1)", walk.planned(1, 1), 1);
    }

    private static void buffer() {
        CensusWalk walk = Check.town(TOWN);
        Check.load(walk, "towns");
        Check.append(walk, "town 7;");
        Check.same("undo()", walk.undo(), 0);
        Check.same("errorOffset() is not affected", walk.errorOffset(), 0);
        Check.same("the buffer is not affected", walk.load(7), 0);
        Check.same("crossingCount()", walk.crossingCount(), 7);
        Check.append(walk, "town 4;");
        walk.undo();
        Check.argument("the buffer has no more", () -> walk.load(21));
        Check.same("load(20)", walk.load(20), 0);
    }

    private static long sum(long... numbers) {
        long sum = 0;
        for (long number : numbers) {
            sum = 31 * sum + number;
        }
        return sum;
    }

    private static void checksum() {
        CensusWalk walk = Check.town(TOWN);
        Check.same("checksum()", walk.checksum(), sum(0, 90, 0, 95, 0, 0, 0, 1, 1, 1, 0));
        walk.plan(0, 0);
        walk.plan(0, 1);
        walk.plan(1, 1);
        Check.same("checksum()", walk.checksum(), sum(2, 115, 0, 0, 1, 2, 1, 109, 1, 0, 1, 0, 1, 1, 1, 1, 3));
        walk.setOpen(1, false);
        walk.setDog(0, true);
        Check.same("checksum()", walk.checksum(), sum(2, 104, 0, 0, 1, 4, 1, 95, 1, 4, 1, 1, 0, 1, 1, 0, 1));
        for (int i = 0; i < 10; i++) {
            walk.plan(0, 1);
        }
        Check.same("a checksum that wraps around", walk.checksum(), sum(12, 104, 0, 0, 1, 4, 1, 4, 1, 4, 1, 4, 1, 4, 1, 4, 1, 4,
                1, 4, 1, 4, 1, 4, 1, 4, 1, 95, 1, 4, 1, 1, 0, 1, 1, 0, 1));
    }
}
