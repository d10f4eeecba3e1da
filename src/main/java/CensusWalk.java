import java.util.Arrays;

/**
 * A planner for a census of a town that is taken by walkers. Nothing but exceptions is made after the constructor:
 * every call works in rows that are made once, so that a long run needs no more room than a short one.
 */
public final class CensusWalk {
    public static final int SYNTAX_ERROR = -2;
    public static final int OUT_OF_RANGE = -3;
    public static final int TOO_MANY = -4;
    public static final int TOO_DEEP = -5;
    public static final int ANSWERED = 0;
    public static final int UNANSWERED = 1;
    public static final int DONE = 2;
    public static final int REFUSED = 3;
    public static final int UNREACHABLE = 4;

    private static final int MAX_TEXT = 900;
    private static final int APPENDED_BYTES = 20;
    private static final int MAX_CROSSINGS = 10;
    private static final int MAX_STREETS = 12;
    private static final int MAX_HOUSES = 16;
    private static final int MAX_WALKERS = 3;
    private static final int MAX_PLAN = 12;
    private static final int MAX_UNDO = 8;
    private static final int MAX_SET = 8;
    private static final int SETS = 1 << MAX_SET;
    private static final int DAY = 1440;
    private static final int MAX_ASKED_TIME = 9999;
    private static final int NO_ERROR = 0;
    private static final int NONE = -1;

    private final byte[] buffer = new byte[MAX_TEXT];
    private int bufferLength = 0;
    private int errorAt = NONE;

    private final Town town = new Town();
    private final Town[] past = new Town[MAX_UNDO];
    private int oldestPast = 0;
    private int pastCount = 0;

    private final SetupReader reader = new SetupReader();
    private final Routes routes = new Routes();
    private final Simulation simulation = new Simulation();
    private final Search search = new Search();
    private boolean routesFresh = false;
    private boolean simulationFresh = false;

    public CensusWalk() {
        for (int i = 0; i < past.length; i++) {
            past[i] = new Town();
        }
    }

    public int append(int w0, int w1, int w2, int w3, int w4) {
        if (bufferLength + APPENDED_BYTES > MAX_TEXT) {
            return -1;
        }
        appendWord(w0);
        appendWord(w1);
        appendWord(w2);
        appendWord(w3);
        appendWord(w4);
        return bufferLength;
    }

    public int load(int length) throws IllegalArgumentException {
        if (length < 0 || length > bufferLength) {
            throw new IllegalArgumentException("no such length");
        }
        bufferLength = 0;
        int error = reader.read(buffer, length);
        errorAt = reader.errorAt;
        if (error != NO_ERROR) {
            return error;
        }
        beginChange();
        town.copyFrom(reader.town);
        return town.houses.count;
    }

    public int errorOffset() {
        return errorAt;
    }

    public int crossingCount() {
        return town.crossings;
    }

    public int streetCount() {
        return town.streets.count;
    }

    public int houseCount() {
        return town.houses.count;
    }

    public int walkerCount() {
        return town.walkers.count;
    }

    public int distance(int one, int other) throws IndexOutOfBoundsException {
        checkHouse(one);
        checkHouse(other);
        refreshRoutes();
        return routes.betweenHouses(town, one, other);
    }

    public int distanceFrom(int crossing, int house) throws IndexOutOfBoundsException {
        if (crossing < 0 || crossing >= town.crossings) {
            throw new IndexOutOfBoundsException("no such crossing");
        }
        checkHouse(house);
        refreshRoutes();
        return routes.fromCrossing(town, crossing, house);
    }

    public int streetOf(int house) throws IndexOutOfBoundsException {
        checkHouse(house);
        return town.houses.street[house];
    }

    public boolean isOpen(int street) throws IndexOutOfBoundsException {
        checkStreet(street);
        return town.streets.open[street];
    }

    public boolean hasDog(int house) throws IndexOutOfBoundsException {
        checkHouse(house);
        return town.houses.dog[house];
    }

    public boolean isHome(int house, int time) throws IndexOutOfBoundsException, IllegalArgumentException {
        checkHouse(house);
        if (time < 0 || time > MAX_ASKED_TIME) {
            throw new IllegalArgumentException("time is out of range");
        }
        return town.houses.homeAt(house, time);
    }

    public int duration(int house, int call) throws IndexOutOfBoundsException, IllegalArgumentException {
        checkHouse(house);
        if (call != 1 && call != 2) {
            throw new IllegalArgumentException("call is not 1 or 2");
        }
        return town.houses.visitTime(house, call);
    }

    public int planLength(int walker) throws IndexOutOfBoundsException {
        checkWalker(walker);
        return town.walkers.planLength[walker];
    }

    public int planned(int walker, int k) throws IndexOutOfBoundsException {
        checkPlanIndex(walker, k);
        return town.walkers.plannedHouse(walker, k);
    }

    public int result(int walker, int k) throws IndexOutOfBoundsException {
        checkPlanIndex(walker, k);
        refreshSimulation();
        return simulation.results[walker * MAX_PLAN + k];
    }

    public int arrival(int walker, int k) throws IndexOutOfBoundsException {
        checkPlanIndex(walker, k);
        refreshSimulation();
        return simulation.arrivals[walker * MAX_PLAN + k];
    }

    public int finish(int walker) throws IndexOutOfBoundsException {
        checkWalker(walker);
        refreshSimulation();
        return simulation.time[walker];
    }

    public int finishAll() {
        refreshSimulation();
        int latest = 0;
        for (int walker = 0; walker < town.walkers.count; walker++) {
            if (town.walkers.planLength[walker] > 0) {
                latest = Math.max(latest, simulation.time[walker]);
            }
        }
        return latest;
    }

    public int counted() {
        refreshSimulation();
        return simulation.countedHouses;
    }

    public int persons() {
        refreshSimulation();
        int sum = 0;
        for (int house = 0; house < town.houses.count; house++) {
            if (contains(simulation.countedHouses, house)) {
                sum += town.houses.persons[house];
            }
        }
        return sum;
    }

    public int calls(int house) throws IndexOutOfBoundsException {
        checkHouse(house);
        refreshSimulation();
        return simulation.callCount[house];
    }

    public int soonest(int walker, int houses) throws IndexOutOfBoundsException, IllegalArgumentException {
        checkWalker(walker);
        checkSet(houses);
        refreshRoutes();
        return search.soonestEnd(town, routes, walker, houses);
    }

    public int soonestOrder(int walker, int houses, int k)
            throws IndexOutOfBoundsException, IllegalArgumentException {
        checkWalker(walker);
        checkSet(houses);
        if (k < 0) {
            throw new IllegalArgumentException("k is negative");
        }
        refreshRoutes();
        int end = search.soonestEnd(town, routes, walker, houses);
        if (end == NONE || k >= search.size) {
            return -1;
        }
        search.findOrder(end);
        return search.order[k];
    }

    public int division(int houses) throws IllegalArgumentException {
        checkSet(houses);
        refreshRoutes();
        search.divide(town, routes, houses);
        return search.bestTime;
    }

    public int walkerOf(int houses, int house) throws IndexOutOfBoundsException, IllegalArgumentException {
        checkHouse(house);
        checkSet(houses);
        if (!contains(houses, house)) {
            return -1;
        }
        refreshRoutes();
        search.divide(town, routes, houses);
        return search.chosenWalker(house);
    }

    public int plan(int walker, int house) throws IndexOutOfBoundsException, IllegalStateException {
        checkWalker(walker);
        checkHouse(house);
        int length = town.walkers.planLength[walker];
        if (length >= MAX_PLAN) {
            throw new IllegalStateException("the plan is full");
        }
        beginChange();
        town.walkers.plans[walker * MAX_PLAN + length] = house;
        town.walkers.planLength[walker] = length + 1;
        return length + 1;
    }

    public int unplan(int walker) throws IndexOutOfBoundsException, IllegalStateException {
        checkWalker(walker);
        int length = town.walkers.planLength[walker];
        if (length <= 0) {
            throw new IllegalStateException("the plan is empty");
        }
        beginChange();
        town.walkers.planLength[walker] = length - 1;
        return town.walkers.plans[walker * MAX_PLAN + length - 1];
    }

    public int setHours(int house, int from, int to) throws IndexOutOfBoundsException, IllegalArgumentException {
        checkHouse(house);
        if (from < 0 || from >= DAY || to <= from || to > DAY) {
            throw new IllegalArgumentException("hours are out of range");
        }
        beginChange();
        town.houses.from[house] = from;
        town.houses.to[house] = to;
        refreshSimulation();
        return Integer.bitCount(simulation.countedHouses);
    }

    public boolean setDog(int house, boolean dog) throws IndexOutOfBoundsException {
        checkHouse(house);
        beginChange();
        boolean had = town.houses.dog[house];
        town.houses.dog[house] = dog;
        return had;
    }

    public boolean setOpen(int street, boolean open) throws IndexOutOfBoundsException {
        checkStreet(street);
        beginChange();
        boolean was = town.streets.open[street];
        town.streets.open[street] = open;
        return was;
    }

    public int undo() {
        if (pastCount <= 0) {
            return -1;
        }
        pastCount--;
        town.copyFrom(past[(oldestPast + pastCount) % MAX_UNDO]);
        forgetAnswers();
        return pastCount;
    }

    public long checksum() {
        refreshSimulation();
        long sum = 0;
        for (int walker = 0; walker < town.walkers.count; walker++) {
            int length = town.walkers.planLength[walker];
            sum = 31 * sum + length;
            sum = 31 * sum + simulation.time[walker];
            for (int k = 0; k < length; k++) {
                sum = 31 * sum + town.walkers.plannedHouse(walker, k);
                sum = 31 * sum + simulation.results[walker * MAX_PLAN + k];
            }
        }
        for (int house = 0; house < town.houses.count; house++) {
            sum = 31 * sum + simulation.callCount[house];
            sum = 31 * sum + (town.houses.dog[house] ? 1 : 0);
        }
        for (int street = 0; street < town.streets.count; street++) {
            sum = 31 * sum + (town.streets.open[street] ? 1 : 0);
        }
        return 31 * sum + simulation.countedHouses;
    }

    private void appendWord(int word) {
        for (int shift = 24; shift >= 0; shift -= 8) {
            if (bufferLength < buffer.length) {
                buffer[bufferLength] = (byte) (word >> shift);
                bufferLength++;
            }
        }
    }

    /** Called when nothing can fail any more: a call that throws must leave no trace. */
    private void beginChange() {
        if (pastCount == MAX_UNDO) {
            oldestPast = (oldestPast + 1) % MAX_UNDO;
            pastCount--;
        }
        past[(oldestPast + pastCount) % MAX_UNDO].copyFrom(town);
        pastCount++;
        forgetAnswers();
    }

    private void forgetAnswers() {
        routesFresh = false;
        simulationFresh = false;
    }

    private void refreshRoutes() {
        if (!routesFresh) {
            routes.measure(town);
            routesFresh = true;
        }
    }

    private void refreshSimulation() {
        if (!simulationFresh) {
            refreshRoutes();
            simulation.run(town, routes);
            simulationFresh = true;
        }
    }

    private void checkStreet(int street) {
        if (!town.streets.has(street)) {
            throw new IndexOutOfBoundsException("no such street");
        }
    }

    private void checkHouse(int house) {
        if (!town.houses.has(house)) {
            throw new IndexOutOfBoundsException("no such house");
        }
    }

    private void checkWalker(int walker) {
        if (!town.walkers.has(walker)) {
            throw new IndexOutOfBoundsException("no such walker");
        }
    }

    private void checkPlanIndex(int walker, int k) {
        checkWalker(walker);
        if (k < 0 || k >= town.walkers.planLength[walker]) {
            throw new IndexOutOfBoundsException("no such index in the plan");
        }
    }

    private void checkSet(int houses) {
        if (houses >>> town.houses.count != 0 || Integer.bitCount(houses) > MAX_SET) {
            throw new IllegalArgumentException("no such set of houses");
        }
    }

    private static boolean contains(int set, int index) {
        return (set >> index & 1) != 0;
    }

    private static final class Streets {
        int count = 0;
        final int[] start = new int[MAX_STREETS];
        final int[] end = new int[MAX_STREETS];
        final int[] length = new int[MAX_STREETS];
        final boolean[] open = new boolean[MAX_STREETS];

        boolean has(int street) {
            return street >= 0 && street < count;
        }

        void add(int from, int to, int minutes) {
            if (count < MAX_STREETS) {
                start[count] = from;
                end[count] = to;
                length[count] = minutes;
                open[count] = true;
                count++;
            }
        }

        void copyFrom(Streets other) {
            count = other.count;
            System.arraycopy(other.start, 0, start, 0, MAX_STREETS);
            System.arraycopy(other.end, 0, end, 0, MAX_STREETS);
            System.arraycopy(other.length, 0, length, 0, MAX_STREETS);
            for (int street = 0; street < MAX_STREETS; street++) {
                open[street] = other.open[street];
            }
        }
    }

    private static final class Houses {
        /** One for each pair of dog and call: the dog may come and go after the text has been read. */
        static final int VISIT_KINDS = 4;

        int count = 0;
        final int[] street = new int[MAX_HOUSES];
        final int[] offset = new int[MAX_HOUSES];
        final int[] side = new int[MAX_HOUSES];
        final int[] persons = new int[MAX_HOUSES];
        final int[] from = new int[MAX_HOUSES];
        final int[] to = new int[MAX_HOUSES];
        final boolean[] dog = new boolean[MAX_HOUSES];
        final int[] visits = new int[MAX_HOUSES * VISIT_KINDS];

        boolean has(int house) {
            return house >= 0 && house < count;
        }

        boolean homeAt(int house, int time) {
            return has(house) && from[house] <= time && time < to[house];
        }

        int visitTime(int house, int call) {
            if (!has(house) || call < 1 || call > 2) {
                return VisitExpression.DEFAULT_TIME;
            }
            return visits[house * VISIT_KINDS + (dog[house] ? 2 : 0) + call - 1];
        }

        void setVisits(VisitExpression expression) {
            for (int house = 0; house < count; house++) {
                for (int kind = 0; kind < VISIT_KINDS; kind++) {
                    visits[house * VISIT_KINDS + kind] = expression.minutes(persons[house], kind >> 1, (kind & 1) + 1);
                }
            }
        }

        void copyFrom(Houses other) {
            count = other.count;
            System.arraycopy(other.street, 0, street, 0, MAX_HOUSES);
            System.arraycopy(other.offset, 0, offset, 0, MAX_HOUSES);
            System.arraycopy(other.side, 0, side, 0, MAX_HOUSES);
            System.arraycopy(other.persons, 0, persons, 0, MAX_HOUSES);
            System.arraycopy(other.from, 0, from, 0, MAX_HOUSES);
            System.arraycopy(other.to, 0, to, 0, MAX_HOUSES);
            System.arraycopy(other.visits, 0, visits, 0, MAX_HOUSES * VISIT_KINDS);
            for (int house = 0; house < MAX_HOUSES; house++) {
                dog[house] = other.dog[house];
            }
        }
    }

    private static final class Walkers {
        int count = 0;
        final int[] crossing = new int[MAX_WALKERS];
        final int[] startTime = new int[MAX_WALKERS];
        final int[] planLength = new int[MAX_WALKERS];
        final int[] plans = new int[MAX_WALKERS * MAX_PLAN];

        boolean has(int walker) {
            return walker >= 0 && walker < count;
        }

        void add(int startCrossing, int time) {
            if (count < MAX_WALKERS) {
                crossing[count] = startCrossing;
                startTime[count] = time;
                planLength[count] = 0;
                count++;
            }
        }

        /** NONE behind the end of the plan. */
        int plannedHouse(int walker, int k) {
            if (!has(walker) || k < 0 || k >= planLength[walker]) {
                return NONE;
            }
            return plans[walker * MAX_PLAN + k];
        }

        void copyFrom(Walkers other) {
            count = other.count;
            System.arraycopy(other.crossing, 0, crossing, 0, MAX_WALKERS);
            System.arraycopy(other.startTime, 0, startTime, 0, MAX_WALKERS);
            System.arraycopy(other.planLength, 0, planLength, 0, MAX_WALKERS);
            System.arraycopy(other.plans, 0, plans, 0, MAX_WALKERS * MAX_PLAN);
        }
    }

    /** All that undo brings back, and nothing else: so that one copy back undoes any change. */
    private static final class Town {
        private static final int DEFAULT_GAP = 60;

        int crossings = 0;
        int crossingTime = 0;
        int gap = DEFAULT_GAP;
        final Streets streets = new Streets();
        final Houses houses = new Houses();
        final Walkers walkers = new Walkers();

        void clear() {
            crossings = 0;
            crossingTime = 0;
            gap = DEFAULT_GAP;
            streets.count = 0;
            houses.count = 0;
            walkers.count = 0;
        }

        void copyFrom(Town other) {
            crossings = other.crossings;
            crossingTime = other.crossingTime;
            gap = other.gap;
            streets.copyFrom(other.streets);
            houses.copyFrom(other.houses);
            walkers.copyFrom(other.walkers);
        }
    }

    private static final class Routes {
        /** Above the length of every way; a few of them still add up without overflow. */
        private static final int FAR = 1000000;

        private final int[] ways = new int[MAX_CROSSINGS * MAX_CROSSINGS];

        void measure(Town town) {
            Arrays.fill(ways, FAR);
            for (int c = 0; c < MAX_CROSSINGS; c++) {
                shorten(c, c, 0);
            }
            Streets streets = town.streets;
            for (int s = 0; s < streets.count; s++) {
                if (streets.open[s]) {
                    shorten(streets.start[s], streets.end[s], streets.length[s]);
                    shorten(streets.end[s], streets.start[s], streets.length[s]);
                }
            }
            for (int via = 0; via < town.crossings; via++) {
                for (int a = 0; a < town.crossings; a++) {
                    shortenAllFrom(a, via, town.crossings);
                }
            }
        }

        /** NONE if there is no way. */
        int fromCrossing(Town town, int crossing, int house) {
            int length = reach(town, crossing, house);
            return length >= FAR ? NONE : length;
        }

        /** NONE if there is no way. */
        int betweenHouses(Town town, int one, int other) {
            if (one == other) {
                return 0;
            }
            Houses houses = town.houses;
            if (!houses.has(one) || !houses.has(other)) {
                return NONE;
            }
            int street = houses.street[one];
            if (!town.streets.has(street) || !town.streets.open[street]) {
                return NONE;
            }
            int toStart = houses.offset[one];
            int toEnd = town.streets.length[street] - toStart;
            int length = Math.min(toStart + reach(town, town.streets.start[street], other),
                    toEnd + reach(town, town.streets.end[street], other));
            if (street == houses.street[other]) {
                length = Math.min(length, Math.abs(houses.offset[one] - houses.offset[other]));
                length += houses.side[one] != houses.side[other] ? town.crossingTime : 0;
            }
            return length >= FAR ? NONE : length;
        }

        /** FAR or more if there is no way. */
        private int reach(Town town, int crossing, int house) {
            Streets streets = town.streets;
            Houses houses = town.houses;
            if (!houses.has(house)) {
                return FAR;
            }
            int street = houses.street[house];
            if (!streets.has(street) || !streets.open[street]) {
                return FAR;
            }
            int offset = houses.offset[house];
            return Math.min(way(crossing, streets.start[street]) + offset,
                    way(crossing, streets.end[street]) + streets.length[street] - offset);
        }

        private void shortenAllFrom(int a, int via, int crossings) {
            int toVia = way(a, via);
            if (toVia >= FAR) {
                return;
            }
            for (int b = 0; b < crossings; b++) {
                shorten(a, b, toVia + way(via, b));
            }
        }

        private void shorten(int a, int b, int length) {
            if (isCrossing(a) && isCrossing(b) && length < ways[a * MAX_CROSSINGS + b]) {
                ways[a * MAX_CROSSINGS + b] = length;
            }
        }

        private int way(int a, int b) {
            return isCrossing(a) && isCrossing(b) ? ways[a * MAX_CROSSINGS + b] : FAR;
        }

        private static boolean isCrossing(int crossing) {
            return crossing >= 0 && crossing < MAX_CROSSINGS;
        }
    }

    private static final class Simulation {
        final int[] results = new int[MAX_WALKERS * MAX_PLAN];
        final int[] arrivals = new int[MAX_WALKERS * MAX_PLAN];
        final int[] time = new int[MAX_WALKERS];
        final int[] callCount = new int[MAX_HOUSES];
        int countedHouses = 0;

        private final int[] latestCall = new int[MAX_HOUSES];
        private final int[] treated = new int[MAX_WALKERS];
        /** The house at which a walker stands; NONE at the start crossing. */
        private final int[] place = new int[MAX_WALKERS];
        /** The distance to the next house of a walker; NONE if there is no way or no next house. */
        private final int[] ahead = new int[MAX_WALKERS];

        void run(Town town, Routes routes) {
            Arrays.fill(callCount, 0);
            countedHouses = 0;
            for (int walker = 0; walker < town.walkers.count; walker++) {
                treated[walker] = 0;
                place[walker] = NONE;
                time[walker] = town.walkers.startTime[walker];
                lookAhead(town, routes, walker);
            }
            for (int step = 0; step < MAX_WALKERS * MAX_PLAN; step++) {
                int walker = firstToArrive(town.walkers);
                if (walker == NONE) {
                    return;
                }
                treat(town, walker);
                lookAhead(town, routes, walker);
            }
        }

        private void lookAhead(Town town, Routes routes, int walker) {
            int house = town.walkers.plannedHouse(walker, treated[walker]);
            if (house == NONE) {
                ahead[walker] = NONE;
            } else if (place[walker] == NONE) {
                ahead[walker] = routes.fromCrossing(town, town.walkers.crossing[walker], house);
            } else {
                ahead[walker] = routes.betweenHouses(town, place[walker], house);
            }
        }

        private int firstToArrive(Walkers walkers) {
            int first = NONE;
            int earliest = 0;
            for (int walker = 0; walker < walkers.count; walker++) {
                if (treated[walker] < walkers.planLength[walker]) {
                    int arrives = time[walker] + Math.max(ahead[walker], 0);
                    if (first == NONE || arrives < earliest) {
                        first = walker;
                        earliest = arrives;
                    }
                }
            }
            return first;
        }

        private void treat(Town town, int walker) {
            int k = treated[walker];
            int house = town.walkers.plannedHouse(walker, k);
            if (!town.houses.has(house)) {
                return;
            }
            int at = walker * MAX_PLAN + k;
            treated[walker] = k + 1;
            if (ahead[walker] == NONE) {
                arrivals[at] = time[walker];
                results[at] = UNREACHABLE;
                return;
            }
            place[walker] = house;
            time[walker] += ahead[walker];
            arrivals[at] = time[walker];
            results[at] = callOn(town, walker, house);
        }

        private int callOn(Town town, int walker, int house) {
            int now = time[walker];
            if (contains(countedHouses, house)) {
                return DONE;
            }
            if (callCount[house] >= 2 || callCount[house] == 1 && latestCall[house] > now - town.gap) {
                return REFUSED;
            }
            callCount[house]++;
            latestCall[house] = now;
            if (!town.houses.homeAt(house, now)) {
                time[walker] = now + 1;
                return UNANSWERED;
            }
            countedHouses |= 1 << house;
            time[walker] = now + town.houses.visitTime(house, callCount[house]);
            return ANSWERED;
        }
    }

    /**
     * Finds orders and divisions. It gives the houses of the asked set the numbers 0 to size - 1, in the order
     * of their indexes, so that the tables need a place for each subset of 8 houses only.
     */
    private static final class Search {
        int size = 0;
        final int[] order = new int[MAX_SET];
        int bestTime = NONE;

        private final int[] members = new int[MAX_SET];
        private final int[] opens = new int[MAX_SET];
        private final int[] closes = new int[MAX_SET];
        private final int[] visits = new int[MAX_SET];
        private final int[] ways = new int[MAX_SET * MAX_SET];
        private final int[] firstWays = new int[MAX_SET];
        private int begin = 0;
        /** For a subset and its last house: the earliest time after the last visit; NONE if impossible. */
        private final int[] early = new int[SETS * MAX_SET];
        /** For a subset still to do and the house before it: the latest time to leave the house; NONE if impossible. */
        private final int[] late = new int[SETS * MAX_SET];
        private final int[] ends = new int[MAX_WALKERS * SETS];
        private final int[] shares = new int[MAX_WALKERS];
        private final int[] bestShares = new int[MAX_WALKERS];
        private int walkerCount = 0;

        int soonestEnd(Town town, Routes routes, int walker, int houses) {
            choose(town, routes, houses);
            beginAt(town, routes, walker);
            findEarly();
            return earliestEnd((1 << size) - 1);
        }

        /**
         * Writes the first of all orders that end at the given time. A prefix that is not the fastest one may still
         * be good, as waiting can make up for it: so each house is chosen by the latest time that its rest allows.
         */
        void findOrder(int end) {
            findLate(end);
            int rest = (1 << size) - 1;
            int last = NONE;
            int now = begin;
            for (int k = 0; k < size; k++) {
                int next = firstInTime(rest, last, now);
                if (next == NONE) {
                    return;
                }
                order[k] = members[next];
                now = visitEnd(next, wayTo(last, next), now);
                rest ^= 1 << next;
                last = next;
            }
        }

        void divide(Town town, Routes routes, int houses) {
            choose(town, routes, houses);
            walkerCount = town.walkers.count;
            for (int walker = 0; walker < walkerCount; walker++) {
                beginAt(town, routes, walker);
                findEarly();
                for (int set = 0; set < 1 << size; set++) {
                    ends[walker * SETS + set] = earliestEnd(set);
                }
                shares[walker] = 0;
            }
            bestTime = NONE;
            giveFrom(0);
        }

        /** NONE if no division is possible or if the house is in no walker's share. */
        int chosenWalker(int house) {
            if (bestTime == NONE) {
                return NONE;
            }
            for (int member = 0; member < size; member++) {
                for (int walker = 0; walker < walkerCount; walker++) {
                    if (members[member] == house && contains(bestShares[walker], member)) {
                        return walker;
                    }
                }
            }
            return NONE;
        }

        private void choose(Town town, Routes routes, int houses) {
            size = 0;
            for (int house = 0; house < town.houses.count; house++) {
                if (contains(houses, house) && size < MAX_SET) {
                    members[size] = house;
                    opens[size] = town.houses.from[house];
                    closes[size] = town.houses.to[house];
                    visits[size] = town.houses.visitTime(house, 1);
                    size++;
                }
            }
            for (int one = 0; one < size; one++) {
                for (int other = 0; other < size; other++) {
                    ways[one * MAX_SET + other] = routes.betweenHouses(town, members[one], members[other]);
                }
            }
        }

        private void beginAt(Town town, Routes routes, int walker) {
            if (!town.walkers.has(walker)) {
                return;
            }
            begin = town.walkers.startTime[walker];
            for (int member = 0; member < size; member++) {
                firstWays[member] = routes.fromCrossing(town, town.walkers.crossing[walker], members[member]);
            }
        }

        private void findEarly() {
            for (int set = 1; set < 1 << size; set++) {
                for (int last = 0; last < size; last++) {
                    if (contains(set, last)) {
                        early[set * MAX_SET + last] = earliestAfter(set ^ 1 << last, last);
                    }
                }
            }
        }

        /** The earliest end of the visit at a house after the visits at all of a set. */
        private int earliestAfter(int before, int house) {
            if (before == 0) {
                return visitEnd(house, firstWays[house], begin);
            }
            int earliest = NONE;
            for (int last = 0; last < size; last++) {
                if (contains(before, last) && early[before * MAX_SET + last] != NONE) {
                    int end = visitEnd(house, ways[last * MAX_SET + house], early[before * MAX_SET + last]);
                    earliest = earlier(earliest, end);
                }
            }
            return earliest;
        }

        private int earliestEnd(int set) {
            if (set == 0) {
                return begin;
            }
            int earliest = NONE;
            for (int last = 0; last < size; last++) {
                if (contains(set, last)) {
                    earliest = earlier(earliest, early[set * MAX_SET + last]);
                }
            }
            return earliest;
        }

        private static int earlier(int one, int other) {
            if (one == NONE) {
                return other;
            }
            return other == NONE ? one : Math.min(one, other);
        }

        /** NONE if there is no way or if the walker comes too late. */
        private int visitEnd(int house, int way, int leave) {
            if (way == NONE || leave + way >= closes[house]) {
                return NONE;
            }
            return Math.max(leave + way, opens[house]) + visits[house];
        }

        private int wayTo(int last, int next) {
            return last == NONE ? firstWays[next] : ways[last * MAX_SET + next];
        }

        private void findLate(int end) {
            for (int rest = 0; rest < 1 << size; rest++) {
                for (int last = 0; last < size; last++) {
                    if (!contains(rest, last)) {
                        late[rest * MAX_SET + last] = rest == 0 ? end : latestLeave(rest, last);
                    }
                }
            }
        }

        private int latestLeave(int rest, int last) {
            int latest = NONE;
            for (int next = 0; next < size; next++) {
                int way = ways[last * MAX_SET + next];
                if (contains(rest, next) && way != NONE) {
                    int call = latestCall(next, late[(rest ^ 1 << next) * MAX_SET + next]);
                    latest = Math.max(latest, call - way);
                }
            }
            return latest;
        }

        private int latestCall(int house, int leave) {
            int call = Math.min(closes[house] - 1, leave - visits[house]);
            return call >= opens[house] ? call : NONE;
        }

        private int firstInTime(int rest, int last, int now) {
            for (int next = 0; next < size; next++) {
                if (contains(rest, next)) {
                    int end = visitEnd(next, wayTo(last, next), now);
                    if (end != NONE && end <= late[(rest ^ 1 << next) * MAX_SET + next]) {
                        return next;
                    }
                }
            }
            return NONE;
        }

        /** Tries the divisions in the order in which they are compared, so that the first best one stays. */
        private void giveFrom(int member) {
            if (member >= size) {
                judgeShares();
                return;
            }
            for (int walker = 0; walker < walkerCount; walker++) {
                shares[walker] |= 1 << member;
                giveFrom(member + 1);
                shares[walker] ^= 1 << member;
            }
        }

        private void judgeShares() {
            int latest = 0;
            for (int walker = 0; walker < walkerCount; walker++) {
                if (shares[walker] != 0) {
                    int end = ends[walker * SETS + shares[walker]];
                    if (end == NONE) {
                        return;
                    }
                    latest = Math.max(latest, end);
                }
            }
            if (bestTime == NONE || latest < bestTime) {
                bestTime = latest;
                System.arraycopy(shares, 0, bestShares, 0, MAX_WALKERS);
            }
        }
    }

    /** The visit expression in postfix order: a number stands for itself, all else is negative. */
    private static final class VisitExpression {
        static final int DEFAULT_TIME = 10;
        static final int PERSONS = -1;
        static final int DOG = -2;
        static final int CALL = -3;
        static final int PLUS = -4;
        static final int MINUS = -5;
        static final int TIMES = -6;
        static final int DIVIDED = -7;

        private static final int MAX_TIME = 240;
        private static final int MAX_VALUE = 1000000;
        /** Each of the 5 levels of parentheses holds back at most two values while a third is computed. */
        private static final int MAX_HEIGHT = 16;

        private final int[] codes = new int[MAX_TEXT];
        private int length = 0;
        private final int[] stack = new int[MAX_HEIGHT];

        void clear() {
            length = 0;
        }

        void add(int code) {
            if (length < codes.length) {
                codes[length] = code;
                length++;
            }
        }

        int minutes(int persons, int dog, int call) {
            if (length == 0) {
                return DEFAULT_TIME;
            }
            int height = 0;
            for (int i = 0; i < length; i++) {
                int code = codes[i];
                if (code <= PLUS) {
                    if (height >= 2) {
                        height--;
                        stack[height - 1] = combine(code, stack[height - 1], stack[height]);
                    }
                } else if (height < stack.length) {
                    stack[height] = operand(code, persons, dog, call);
                    height++;
                }
            }
            return Math.max(1, Math.min(stack[0], MAX_TIME));
        }

        private static int operand(int code, int persons, int dog, int call) {
            if (code == PERSONS) {
                return persons;
            }
            if (code == DOG) {
                return dog;
            }
            return code == CALL ? call : code;
        }

        private static int combine(int code, int left, int right) {
            long value;
            if (code == PLUS) {
                value = left + right;
            } else if (code == MINUS) {
                value = left - right;
            } else if (code == TIMES) {
                value = (long) left * right;
            } else {
                value = right == 0 ? 0 : left / right;
            }
            return (int) Math.max(-MAX_VALUE, Math.min(value, MAX_VALUE));
        }
    }

    /** Cuts the text into tokens; the token that comes next is always at hand. */
    private static final class Tokens {
        static final int END = 0;
        static final int NUMBER = 1;
        static final int WORD = 2;
        static final int SIGN = 3;

        /** Above every number that is allowed anywhere, so that longer runs of digits need not be told apart. */
        private static final int HUGE = 100000;

        int kind = END;
        int start = 0;
        int value = 0;

        private byte[] text = new byte[0];
        private int length = 0;
        private int next = 0;

        void begin(byte[] bytes, int count) {
            text = bytes;
            length = Math.min(count, bytes.length);
            next = 0;
            advance();
        }

        void advance() {
            while (next < length && text[next] == ' ') {
                next++;
            }
            start = next;
            value = 0;
            if (next >= length) {
                kind = END;
            } else if (isDigit(text[next])) {
                kind = NUMBER;
                while (next < length && isDigit(text[next])) {
                    value = value < HUGE ? 10 * value + text[next] - '0' : value;
                    next++;
                }
            } else if (isLetter(text[next])) {
                kind = WORD;
                while (next < length && isLetter(text[next])) {
                    next++;
                }
            } else {
                kind = SIGN;
                value = text[next];
                next++;
            }
        }

        boolean isWord(String word) {
            if (kind != WORD || next - start != word.length()) {
                return false;
            }
            for (int i = 0; i < word.length(); i++) {
                if (text[start + i] != word.charAt(i)) {
                    return false;
                }
            }
            return true;
        }

        boolean isSign(char sign) {
            return kind == SIGN && value == sign;
        }

        private static boolean isDigit(int sign) {
            return sign >= '0' && sign <= '9';
        }

        private static boolean isLetter(int sign) {
            return sign >= 'a' && sign <= 'z';
        }
    }

    /**
     * Reads a setup text into a town of its own. It goes through the text once and stops at the first fault that it
     * meets: each is met at its own offset, before anything behind it is looked at, so no smaller offset can follow.
     */
    private static final class SetupReader {
        private static final int MAX_DEPTH = 4;
        private static final int MAX_STREET_LENGTH = 99;
        private static final int MAX_PERSONS = 20;
        private static final int MAX_CROSSING_TIME = 9;
        private static final int MAX_GAP = 600;
        private static final int MAX_FACTOR = 9999;

        final Town town = new Town();
        int errorAt = NONE;

        private int error = NO_ERROR;
        private final Tokens tokens = new Tokens();
        private final VisitExpression visit = new VisitExpression();
        private boolean crossSeen = false;
        private boolean gapSeen = false;
        private boolean visitSeen = false;

        /** The error code, or NO_ERROR. */
        int read(byte[] text, int length) {
            town.clear();
            visit.clear();
            crossSeen = false;
            gapSeen = false;
            visitSeen = false;
            error = NO_ERROR;
            errorAt = NONE;
            tokens.begin(text, length);
            boolean right = header();
            for (int i = 0; i < MAX_TEXT && right && tokens.kind != Tokens.END; i++) {
                right = statement() && expect(';');
            }
            if (right) {
                town.houses.setVisits(visit);
            }
            return error;
        }

        private boolean header() {
            if (!tokens.isWord("town")) {
                return fail(SYNTAX_ERROR);
            }
            tokens.advance();
            int crossings = number(1, MAX_CROSSINGS);
            if (crossings == NONE) {
                return false;
            }
            town.crossings = crossings;
            return expect(';');
        }

        private boolean statement() {
            if (tokens.isWord("street")) {
                return street();
            }
            if (tokens.isWord("house")) {
                return house();
            }
            if (tokens.isWord("walker")) {
                return walker();
            }
            if (tokens.isWord("cross") && !crossSeen) {
                crossSeen = true;
                tokens.advance();
                town.crossingTime = number(0, MAX_CROSSING_TIME);
                return town.crossingTime != NONE;
            }
            if (tokens.isWord("gap") && !gapSeen) {
                gapSeen = true;
                tokens.advance();
                town.gap = number(0, MAX_GAP);
                return town.gap != NONE;
            }
            if (tokens.isWord("visit") && !visitSeen) {
                visitSeen = true;
                tokens.advance();
                return sum(0);
            }
            return fail(SYNTAX_ERROR);
        }

        private boolean street() {
            if (town.streets.count >= MAX_STREETS) {
                return fail(TOO_MANY);
            }
            tokens.advance();
            int start = number(0, town.crossings - 1);
            if (start == NONE) {
                return false;
            }
            if (tokens.kind == Tokens.NUMBER && tokens.value == start) {
                return fail(OUT_OF_RANGE);
            }
            int end = number(0, town.crossings - 1);
            int length = end == NONE ? NONE : number(1, MAX_STREET_LENGTH);
            if (length == NONE) {
                return false;
            }
            town.streets.add(start, end, length);
            return true;
        }

        private boolean house() {
            Houses houses = town.houses;
            int house = houses.count;
            if (house >= MAX_HOUSES) {
                return fail(TOO_MANY);
            }
            tokens.advance();
            int street = number(0, town.streets.count - 1);
            if (!town.streets.has(street)) {
                return false;
            }
            int offset = number(0, town.streets.length[street]);
            int side = offset == NONE ? NONE : number(0, 1);
            int persons = side == NONE ? NONE : number(0, MAX_PERSONS);
            int from = persons == NONE ? NONE : number(0, DAY - 1);
            int to = from == NONE ? NONE : number(from + 1, DAY);
            if (to == NONE) {
                return false;
            }
            houses.street[house] = street;
            houses.offset[house] = offset;
            houses.side[house] = side;
            houses.persons[house] = persons;
            houses.from[house] = from;
            houses.to[house] = to;
            houses.dog[house] = tokens.isWord("dog");
            houses.count = house + 1;
            if (houses.dog[house]) {
                tokens.advance();
            }
            return true;
        }

        private boolean walker() {
            if (town.walkers.count >= MAX_WALKERS) {
                return fail(TOO_MANY);
            }
            tokens.advance();
            int crossing = number(0, town.crossings - 1);
            int time = crossing == NONE ? NONE : number(0, DAY);
            if (time == NONE) {
                return false;
            }
            town.walkers.add(crossing, time);
            return true;
        }

        private boolean sum(int depth) {
            if (!term(depth)) {
                return false;
            }
            for (int i = 0; i < MAX_TEXT && (tokens.isSign('+') || tokens.isSign('-')); i++) {
                int code = tokens.isSign('+') ? VisitExpression.PLUS : VisitExpression.MINUS;
                tokens.advance();
                if (!term(depth)) {
                    return false;
                }
                visit.add(code);
            }
            return true;
        }

        private boolean term(int depth) {
            if (!factor(depth)) {
                return false;
            }
            for (int i = 0; i < MAX_TEXT && (tokens.isSign('*') || tokens.isSign('/')); i++) {
                int code = tokens.isSign('*') ? VisitExpression.TIMES : VisitExpression.DIVIDED;
                tokens.advance();
                if (!factor(depth)) {
                    return false;
                }
                visit.add(code);
            }
            return true;
        }

        private boolean factor(int depth) {
            if (tokens.isSign('(')) {
                if (depth >= MAX_DEPTH) {
                    return fail(TOO_DEEP);
                }
                tokens.advance();
                return sum(depth + 1) && expect(')');
            }
            if (tokens.isWord("persons")) {
                visit.add(VisitExpression.PERSONS);
            } else if (tokens.isWord("dog")) {
                visit.add(VisitExpression.DOG);
            } else if (tokens.isWord("call")) {
                visit.add(VisitExpression.CALL);
            } else if (tokens.kind == Tokens.NUMBER && tokens.value <= MAX_FACTOR) {
                visit.add(tokens.value);
            } else {
                return fail(tokens.kind == Tokens.NUMBER ? OUT_OF_RANGE : SYNTAX_ERROR);
            }
            tokens.advance();
            return true;
        }

        private boolean expect(char sign) {
            if (!tokens.isSign(sign)) {
                return fail(SYNTAX_ERROR);
            }
            tokens.advance();
            return true;
        }

        /** NONE, with the error noted, if the next token is not a number in the range. */
        private int number(int least, int greatest) {
            int value = tokens.value;
            if (tokens.kind != Tokens.NUMBER) {
                fail(SYNTAX_ERROR);
                return NONE;
            }
            if (value < least || value > greatest) {
                fail(OUT_OF_RANGE);
                return NONE;
            }
            tokens.advance();
            return value;
        }

        private boolean fail(int code) {
            error = code;
            errorAt = tokens.start;
            return false;
        }
    }
}
