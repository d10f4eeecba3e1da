/**
 * Towns with as much of everything as the document allows: each street, house, walker and place of a plan keeps what is its
 * own, through loads, changes and undoing.
 */
public final class FullTownTest {
    private static final int CROSSINGS = 10;
    private static final int STREETS = 12;
    private static final int HOUSES = 16;
    private static final int WALKERS = 3;
    private static final int PLAN = 12;
    private static final int CROSS = 5;

    public static void main(String[] args) {
        loadsAndUndo();
        dogs();
        hours();
        streets();
        overwrittenPlans();
        replacedPlans();
        Check.end();
    }

    /** Two kinds of town, 0 and 1, differ in whatever a house, a street or a walker has. */
    private static String text(int kind) {
        StringBuilder text = new StringBuilder("town10;cross 5;visit persons*10+dog*3+call-1;");
        for (int street = 0; street < STREETS; street++) {
            text.append("street").append(start(street, kind)).append(' ').append(end(street, kind)).append(' ')
                    .append(length(street, kind)).append(';');
        }
        for (int house = 0; house < HOUSES; house++) {
            text.append("house").append(street(house, kind)).append(' ').append(offset(house, kind)).append(' ')
                    .append(side(house, kind)).append(' ').append(persons(house, kind)).append(' ').append(from(house, kind))
                    .append(' ').append(to(house, kind)).append(dog(house, kind) ? "dog;" : ";");
        }
        for (int walker = 0; walker < WALKERS; walker++) {
            text.append("walker").append(crossing(walker, kind)).append(' ').append(time(walker, kind)).append(';');
        }
        return text.toString();
    }

    private static int start(int street, int kind) {
        return (street + 4 * kind) % CROSSINGS;
    }

    private static int end(int street, int kind) {
        return (street + 4 * kind + 1) % CROSSINGS;
    }

    /** The last two streets connect the same crossings as the first two: none is a shorter way than its own. */
    private static int length(int street, int kind) {
        return 60 + (street % CROSSINGS + 1) * (kind + 1);
    }

    private static int street(int house, int kind) {
        return (house * 5 + kind * 7) % STREETS;
    }

    private static int offset(int house, int kind) {
        return house + 1 + 8 * kind;
    }

    private static int side(int house, int kind) {
        return (house / STREETS + kind * (house % 2)) % 2;
    }

    private static int persons(int house, int kind) {
        return house + 1 + 3 * kind;
    }

    private static int from(int house, int kind) {
        return 100 + 20 * house + 400 * kind;
    }

    private static int to(int house, int kind) {
        return 110 + 21 * house + 401 * kind;
    }

    private static boolean dog(int house, int kind) {
        return (house + kind) % 2 == 0;
    }

    private static int crossing(int walker, int kind) {
        return walker + 6 * kind;
    }

    private static int time(int walker, int kind) {
        return 30 + 100 * walker + 7 * kind;
    }

    private static int visit(int house, boolean dog, int call, int kind) {
        return Math.max(1, Math.min(persons(house, kind) * 10 + (dog ? 3 : 0) + call - 1, 240));
    }

    private static void hasTown(CensusWalk walk, int kind) {
        Check.same("crossingCount()", walk.crossingCount(), CROSSINGS);
        Check.same("streetCount()", walk.streetCount(), STREETS);
        Check.same("houseCount()", walk.houseCount(), HOUSES);
        Check.same("walkerCount()", walk.walkerCount(), WALKERS);
        for (int house = 0; house < HOUSES; house++) {
            hasHouse(walk, house, kind);
        }
        for (int walker = 0; walker < WALKERS; walker++) {
            Check.same("finish(" + walker + ")", walk.finish(walker), time(walker, kind));
            int first = crossing(walker, kind);
            int house = houseOn(first, kind);
            Check.same("distanceFrom of a walker", walk.distanceFrom(first, house), offset(house, kind));
            Check.same("soonest(" + walker + ", ..)", walk.soonest(walker, 1 << house), end(walker, house, kind));
        }
    }

    private static void hasHouse(CensusWalk walk, int house, int kind) {
        String name = "house " + house + " of kind " + kind + ": ";
        int street = street(house, kind);
        Check.same(name + "street", walk.streetOf(house), street);
        Check.same(name + "from its start", walk.distanceFrom(start(street, kind), house), offset(house, kind));
        Check.same(name + "from its end", walk.distanceFrom(end(street, kind), house), length(street, kind) - offset(house, kind));
        hasHours(walk, house, from(house, kind), to(house, kind));
        Check.same(name + "dog", walk.hasDog(house), dog(house, kind));
        Check.same(name + "first call", walk.duration(house, 1), visit(house, dog(house, kind), 1, kind));
        Check.same(name + "second call", walk.duration(house, 2), visit(house, dog(house, kind), 2, kind));
        for (int other = house + STREETS; other < HOUSES; other += STREETS) {
            int across = side(house, kind) == side(other, kind) ? 0 : CROSS;
            Check.same(name + "to its neighbour", walk.distance(house, other), STREETS + across);
        }
    }

    private static void hasHours(CensusWalk walk, int house, int from, int to) {
        Check.same("isHome(" + house + ", from - 1)", walk.isHome(house, from - 1), false);
        Check.same("isHome(" + house + ", from)", walk.isHome(house, from), true);
        Check.same("isHome(" + house + ", to - 1)", walk.isHome(house, to - 1), true);
        Check.same("isHome(" + house + ", to)", walk.isHome(house, to), false);
    }

    private static int houseOn(int crossing, int kind) {
        for (int house = HOUSES - 1; house >= 0; house--) {
            if (start(street(house, kind), kind) == crossing) {
                return house;
            }
        }
        throw new IllegalStateException("no house on a street from " + crossing);
    }

    /** -1 if nobody is at home any more when the walker comes. */
    private static int end(int walker, int house, int kind) {
        int arrival = time(walker, kind) + offset(house, kind);
        boolean late = arrival >= to(house, kind);
        return late ? -1 : Math.max(arrival, from(house, kind)) + visit(house, dog(house, kind), 1, kind);
    }

    private static void loadsAndUndo() {
        for (int kind = 0; kind < 2; kind++) {
            hasTown(Check.town(text(kind)), kind);
            CensusWalk other = Check.town(text(kind));
            Check.same("load of the other kind", Check.load(other, text(1 - kind)), HOUSES);
            hasTown(other, 1 - kind);
            CensusWalk back = Check.town(text(kind));
            Check.load(back, text(1 - kind));
            Check.same("undo()", back.undo(), 1);
            hasTown(back, kind);
            Check.same("undo()", back.undo(), 0);
            Check.same("houseCount()", back.houseCount(), 0);
        }
    }

    private static void dogs() {
        for (int changed = 0; changed < HOUSES; changed++) {
            CensusWalk walk = Check.town(text(0));
            Check.same("setDog(" + changed + ", ..)", walk.setDog(changed, !dog(changed, 0)), dog(changed, 0));
            for (int house = 0; house < HOUSES; house++) {
                boolean due = dog(house, 0) ^ house == changed;
                Check.same("hasDog(" + house + ") after " + changed, walk.hasDog(house), due);
                Check.same("duration(" + house + ", 1)", walk.duration(house, 1), visit(house, due, 1, 0));
            }
            walk.undo();
            for (int house = 0; house < HOUSES; house++) {
                Check.same("hasDog(" + house + ") after undo", walk.hasDog(house), dog(house, 0));
                Check.same("duration(" + house + ", 2)", walk.duration(house, 2), visit(house, dog(house, 0), 2, 0));
            }
        }
    }

    private static void hours() {
        for (int changed = 0; changed < HOUSES; changed++) {
            CensusWalk walk = Check.town(text(0));
            Check.same("setHours(" + changed + ", ..)", walk.setHours(changed, 900 + changed, 1000 + changed), 0);
            for (int house = 0; house < HOUSES; house++) {
                boolean set = house == changed;
                hasHours(walk, house, set ? 900 + changed : from(house, 0), set ? 1000 + changed : to(house, 0));
            }
            walk.undo();
            for (int house = 0; house < HOUSES; house++) {
                hasHours(walk, house, from(house, 0), to(house, 0));
            }
        }
    }

    private static void streets() {
        for (int changed = 0; changed < STREETS; changed++) {
            CensusWalk walk = Check.town(text(0));
            Check.same("setOpen(" + changed + ", false)", walk.setOpen(changed, false), true);
            areOpenBut(walk, changed);
            Check.same("setOpen(" + changed + ", true)", walk.setOpen(changed, true), false);
            areOpenBut(walk, -1);
            walk.undo();
            areOpenBut(walk, changed);
            walk.undo();
            areOpenBut(walk, -1);
        }
    }

    private static void areOpenBut(CensusWalk walk, int closed) {
        for (int street = 0; street < STREETS; street++) {
            Check.same("isOpen(" + street + ") with " + closed + " closed", walk.isOpen(street), street != closed);
        }
        for (int house = 0; house < HOUSES; house++) {
            int street = street(house, 0);
            int due = street == closed ? -1 : offset(house, 0);
            Check.same("distanceFrom with " + closed + " closed", walk.distanceFrom(start(street, 0), house), due);
        }
    }

    private static int planned(int walker, int k) {
        return (5 * walker + k) % HOUSES;
    }

    private static CensusWalk fullPlans() {
        CensusWalk walk = Check.town(text(0));
        for (int k = 0; k < PLAN; k++) {
            for (int walker = 0; walker < WALKERS; walker++) {
                Check.same("plan(" + walker + ", ..)", walk.plan(walker, planned(walker, k)), k + 1);
            }
        }
        return walk;
    }

    private static void hasPlans(CensusWalk walk, int changed, int length) {
        for (int walker = 0; walker < WALKERS; walker++) {
            int due = walker == changed ? length : PLAN;
            Check.same("planLength(" + walker + ")", walk.planLength(walker), due);
            for (int k = 0; k < due; k++) {
                Check.same("planned(" + walker + ", " + k + ")", walk.planned(walker, k), planned(walker, k));
            }
        }
    }

    /** Each place of each plan is emptied and filled with another house, which undo takes away again. */
    private static void overwrittenPlans() {
        for (int walker = 0; walker < WALKERS; walker++) {
            for (int k = 0; k < PLAN; k++) {
                CensusWalk walk = fullPlans();
                for (int length = PLAN; length > k + 1; length--) {
                    walk.unplan(walker);
                }
                hasPlans(walk, walker, k + 1);
                Check.same("unplan(" + walker + ")", walk.unplan(walker), planned(walker, k));
                Check.same("plan(" + walker + ", ..)", walk.plan(walker, HOUSES - 1 - planned(walker, k)), k + 1);
                Check.same("planned anew", walk.planned(walker, k), HOUSES - 1 - planned(walker, k));
                walk.undo();
                walk.undo();
                hasPlans(walk, walker, k + 1);
            }
        }
    }

    /** A load empties all plans; even when others have been made in the new town, undo brings the old ones back. */
    private static void replacedPlans() {
        CensusWalk walk = fullPlans();
        Check.load(walk, text(1));
        for (int walker = 0; walker < WALKERS; walker++) {
            Check.same("planLength(" + walker + ")", walk.planLength(walker), 0);
            walk.plan(walker, HOUSES - 1);
            walk.plan(walker, HOUSES - 2);
        }
        for (int left = 7; left > 0; left--) {
            Check.same("undo()", walk.undo(), left);
        }
        hasPlans(walk, -1, PLAN);
    }
}
