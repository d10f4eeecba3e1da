import java.util.ArrayDeque;
import java.util.ArrayList;
import java.util.Deque;
import java.util.List;

/**
 * A second CensusWalk for comparing, written from the document's sentences in the slowest and plainest way: ways by
 * repeated relaxing, orders by all permutations, divisions by all assignments, undo by whole copies.
 */
final class Model {
    interface Expression {
        long value(int persons, int dog, int call);
    }

    static final class Fault extends Exception {
        private static final long serialVersionUID = 1L;
        final int code;
        final int offset;

        Fault(int code, int offset) {
            this.code = code;
            this.offset = offset;
        }
    }

    static final class Street {
        int start;
        int end;
        int length;
        boolean open = true;

        Street copy() {
            Street s = new Street();
            s.start = start;
            s.end = end;
            s.length = length;
            s.open = open;
            return s;
        }
    }

    static final class House {
        int street;
        int offset;
        int side;
        int persons;
        int from;
        int to;
        boolean dog;

        House copy() {
            House h = new House();
            h.street = street;
            h.offset = offset;
            h.side = side;
            h.persons = persons;
            h.from = from;
            h.to = to;
            h.dog = dog;
            return h;
        }
    }

    static final class Walker {
        int crossing;
        int time;
        List<Integer> plan = new ArrayList<>();

        Walker copy() {
            Walker w = new Walker();
            w.crossing = crossing;
            w.time = time;
            w.plan = new ArrayList<>(plan);
            return w;
        }
    }

    static final class State {
        int crossings = 0;
        int cross = 0;
        int gap = 60;
        Expression visit = (persons, dog, call) -> 10;
        List<Street> streets = new ArrayList<>();
        List<House> houses = new ArrayList<>();
        List<Walker> walkers = new ArrayList<>();

        State copy() {
            State s = new State();
            s.crossings = crossings;
            s.cross = cross;
            s.gap = gap;
            s.visit = visit;
            streets.forEach(x -> s.streets.add(x.copy()));
            houses.forEach(x -> s.houses.add(x.copy()));
            walkers.forEach(x -> s.walkers.add(x.copy()));
            return s;
        }
    }

    static final class Outcome {
        int[][] results = new int[3][12];
        int[][] arrivals = new int[3][12];
        int[] finish = new int[3];
        int[] calls = new int[16];
        int counted = 0;
    }

    private static final int NO_WAY = -1;

    State state = new State();
    private final Deque<State> past = new ArrayDeque<>();
    private StringBuilder buffer = new StringBuilder();
    private int errorOffset = -1;

    int append(String twenty) {
        if (buffer.length() + 20 > 900) {
            return -1;
        }
        buffer.append(twenty);
        return buffer.length();
    }

    int load(int length) {
        if (length < 0 || length > buffer.length()) {
            throw new IllegalArgumentException();
        }
        String text = buffer.substring(0, length);
        buffer = new StringBuilder();
        try {
            State fresh = new ModelParser(text).setup();
            keep();
            state = fresh;
            errorOffset = -1;
            return fresh.houses.size();
        } catch (Fault fault) {
            errorOffset = fault.offset;
            return fault.code;
        }
    }

    int errorOffset() {
        return errorOffset;
    }

    int bufferLength() {
        return buffer.length();
    }

    private void keep() {
        past.addLast(state.copy());
        if (past.size() > 8) {
            past.removeFirst();
        }
    }

    int undo() {
        if (past.isEmpty()) {
            return -1;
        }
        state = past.removeLast();
        return past.size();
    }

    private void houseMustBe(int house) {
        if (house < 0 || house >= state.houses.size()) {
            throw new IndexOutOfBoundsException();
        }
    }

    private void walkerMustBe(int walker) {
        if (walker < 0 || walker >= state.walkers.size()) {
            throw new IndexOutOfBoundsException();
        }
    }

    private void setMustBe(int houses) {
        int members = 0;
        for (int bit = 0; bit < 32; bit++) {
            if ((houses & 1 << bit) != 0) {
                members++;
                if (bit >= state.houses.size()) {
                    throw new IllegalArgumentException();
                }
            }
        }
        if (members > 8) {
            throw new IllegalArgumentException();
        }
    }

    private int way(int a, int b) {
        int[] best = new int[state.crossings];
        java.util.Arrays.fill(best, NO_WAY);
        best[a] = 0;
        for (boolean again = true; again;) {
            again = false;
            for (Street s : state.streets) {
                if (s.open) {
                    again |= relax(best, s.start, s.end, s.length);
                    again |= relax(best, s.end, s.start, s.length);
                }
            }
        }
        return best[b];
    }

    private static boolean relax(int[] best, int from, int to, int length) {
        if (best[from] == NO_WAY || best[to] != NO_WAY && best[to] <= best[from] + length) {
            return false;
        }
        best[to] = best[from] + length;
        return true;
    }

    int distanceFrom(int crossing, int house) {
        if (crossing < 0 || crossing >= state.crossings) {
            throw new IndexOutOfBoundsException();
        }
        houseMustBe(house);
        House h = state.houses.get(house);
        Street s = state.streets.get(h.street);
        if (!s.open) {
            return NO_WAY;
        }
        int best = Integer.MAX_VALUE;
        if (way(crossing, s.start) != NO_WAY) {
            best = Math.min(best, way(crossing, s.start) + h.offset);
        }
        if (way(crossing, s.end) != NO_WAY) {
            best = Math.min(best, way(crossing, s.end) + s.length - h.offset);
        }
        return best == Integer.MAX_VALUE ? NO_WAY : best;
    }

    int distance(int one, int other) {
        houseMustBe(one);
        houseMustBe(other);
        if (one == other) {
            return 0;
        }
        House a = state.houses.get(one);
        House b = state.houses.get(other);
        Street s = state.streets.get(a.street);
        Street t = state.streets.get(b.street);
        if (!s.open || !t.open) {
            return NO_WAY;
        }
        int[] aEnds = {s.start, s.end};
        int[] aCosts = {a.offset, s.length - a.offset};
        int[] bEnds = {t.start, t.end};
        int[] bCosts = {b.offset, t.length - b.offset};
        int best = Integer.MAX_VALUE;
        for (int i = 0; i < 2; i++) {
            for (int j = 0; j < 2; j++) {
                int middle = way(aEnds[i], bEnds[j]);
                if (middle != NO_WAY) {
                    best = Math.min(best, aCosts[i] + middle + bCosts[j]);
                }
            }
        }
        if (a.street == b.street) {
            best = Math.min(best, Math.abs(a.offset - b.offset)) + (a.side != b.side ? state.cross : 0);
        }
        return best == Integer.MAX_VALUE ? NO_WAY : best;
    }

    int streetOf(int house) {
        houseMustBe(house);
        return state.houses.get(house).street;
    }

    boolean isOpen(int street) {
        return state.streets.get(street).open;
    }

    boolean hasDog(int house) {
        houseMustBe(house);
        return state.houses.get(house).dog;
    }

    boolean isHome(int house, int time) {
        houseMustBe(house);
        if (time < 0 || time > 9999) {
            throw new IllegalArgumentException();
        }
        House h = state.houses.get(house);
        return h.from <= time && time < h.to;
    }

    int duration(int house, int call) {
        houseMustBe(house);
        if (call < 1 || call > 2) {
            throw new IllegalArgumentException();
        }
        House h = state.houses.get(house);
        long value = state.visit.value(h.persons, h.dog ? 1 : 0, call);
        return value < 1 ? 1 : value > 240 ? 240 : (int) value;
    }

    int planLength(int walker) {
        walkerMustBe(walker);
        return state.walkers.get(walker).plan.size();
    }

    private void planIndexMustBe(int walker, int k) {
        if (k < 0 || k >= planLength(walker)) {
            throw new IndexOutOfBoundsException();
        }
    }

    int planned(int walker, int k) {
        planIndexMustBe(walker, k);
        return state.walkers.get(walker).plan.get(k);
    }

    int result(int walker, int k) {
        planIndexMustBe(walker, k);
        return simulate().results[walker][k];
    }

    int arrival(int walker, int k) {
        planIndexMustBe(walker, k);
        return simulate().arrivals[walker][k];
    }

    int finish(int walker) {
        walkerMustBe(walker);
        return simulate().finish[walker];
    }

    int finishAll() {
        int latest = 0;
        for (int w = 0; w < state.walkers.size(); w++) {
            if (!state.walkers.get(w).plan.isEmpty()) {
                latest = Math.max(latest, finish(w));
            }
        }
        return latest;
    }

    int counted() {
        return simulate().counted;
    }

    int persons() {
        int sum = 0;
        for (int h = 0; h < state.houses.size(); h++) {
            if ((counted() & 1 << h) != 0) {
                sum += state.houses.get(h).persons;
            }
        }
        return sum;
    }

    int calls(int house) {
        houseMustBe(house);
        return simulate().calls[house];
    }

    Outcome simulate() {
        Outcome out = new Outcome();
        int n = state.walkers.size();
        int[] next = new int[n];
        int[] place = new int[n];
        int[] firstCall = new int[16];
        for (int w = 0; w < n; w++) {
            place[w] = -1;
            out.finish[w] = state.walkers.get(w).time;
        }
        while (true) {
            int chosen = -1;
            int chosenArrival = 0;
            int chosenWay = 0;
            for (int w = 0; w < n; w++) {
                Walker walker = state.walkers.get(w);
                if (next[w] >= walker.plan.size()) {
                    continue;
                }
                int house = walker.plan.get(next[w]);
                int way = place[w] < 0 ? distanceFrom(walker.crossing, house) : distance(place[w], house);
                int arrival = way == NO_WAY ? out.finish[w] : out.finish[w] + way;
                if (chosen < 0 || arrival < chosenArrival) {
                    chosen = w;
                    chosenArrival = arrival;
                    chosenWay = way;
                }
            }
            if (chosen < 0) {
                return out;
            }
            int house = state.walkers.get(chosen).plan.get(next[chosen]);
            out.arrivals[chosen][next[chosen]] = chosenArrival;
            if (chosenWay == NO_WAY) {
                out.results[chosen][next[chosen]] = CensusWalk.UNREACHABLE;
            } else {
                place[chosen] = house;
                out.finish[chosen] = chosenArrival;
                out.results[chosen][next[chosen]] = callOn(out, firstCall, chosen, house);
            }
            next[chosen]++;
        }
    }

    private int callOn(Outcome out, int[] firstCall, int walker, int house) {
        int t = out.finish[walker];
        if ((out.counted & 1 << house) != 0) {
            return CensusWalk.DONE;
        }
        if (out.calls[house] == 2) {
            return CensusWalk.REFUSED;
        }
        if (out.calls[house] == 1 && firstCall[house] > t - state.gap) {
            return CensusWalk.REFUSED;
        }
        out.calls[house]++;
        if (out.calls[house] == 1) {
            firstCall[house] = t;
        }
        House h = state.houses.get(house);
        if (h.from <= t && t < h.to) {
            out.counted |= 1 << house;
            out.finish[walker] += duration(house, out.calls[house]);
            return CensusWalk.ANSWERED;
        }
        out.finish[walker] += 1;
        return CensusWalk.UNANSWERED;
    }

    private int bestEnd;
    private List<Integer> bestOrder;

    int soonest(int walker, int houses) {
        walkerMustBe(walker);
        setMustBe(houses);
        bestEnd = -1;
        bestOrder = null;
        permute(state.walkers.get(walker), houses, -1, state.walkers.get(walker).time, new ArrayList<>());
        return bestEnd;
    }

    private void permute(Walker walker, int rest, int place, int now, List<Integer> order) {
        if (rest == 0) {
            if (bestEnd < 0 || now < bestEnd) {
                bestEnd = now;
                bestOrder = new ArrayList<>(order);
            }
            return;
        }
        for (int h = 0; h < 16; h++) {
            if ((rest & 1 << h) == 0) {
                continue;
            }
            int way = place < 0 ? distanceFrom(walker.crossing, h) : distance(place, h);
            House house = state.houses.get(h);
            if (way == NO_WAY || now + way >= house.to) {
                continue;
            }
            int end = Math.max(now + way, house.from) + duration(h, 1);
            order.add(h);
            permute(walker, rest & ~(1 << h), h, end, order);
            order.remove(order.size() - 1);
        }
    }

    int soonestOrder(int walker, int houses, int k) {
        int end = soonest(walker, houses);
        if (k < 0) {
            throw new IllegalArgumentException();
        }
        return end < 0 || k >= bestOrder.size() ? -1 : bestOrder.get(k);
    }

    private int bestTime;
    private int[] bestGiven;

    int division(int houses) {
        setMustBe(houses);
        List<Integer> members = new ArrayList<>();
        for (int h = 0; h < 16; h++) {
            if ((houses & 1 << h) != 0) {
                members.add(h);
            }
        }
        bestTime = -1;
        bestGiven = null;
        int[][] ends = new int[state.walkers.size()][1 << 16];
        for (int w = 0; w < ends.length; w++) {
            for (int sub = houses; sub > 0; sub = sub - 1 & houses) {
                ends[w][sub] = soonest(w, sub);
            }
        }
        give(ends, members, new int[members.size()], 0);
        return bestTime;
    }

    private void give(int[][] ends, List<Integer> members, int[] given, int k) {
        if (k < given.length) {
            for (int w = 0; w < ends.length; w++) {
                given[k] = w;
                give(ends, members, given, k + 1);
            }
            return;
        }
        int time = 0;
        for (int w = 0; w < ends.length; w++) {
            int share = 0;
            for (int i = 0; i < given.length; i++) {
                share |= given[i] == w ? 1 << members.get(i) : 0;
            }
            if (share != 0 && ends[w][share] < 0) {
                return;
            }
            time = share == 0 ? time : Math.max(time, ends[w][share]);
        }
        if (bestTime < 0 || time < bestTime) {
            bestTime = time;
            bestGiven = given.clone();
        }
    }

    int walkerOf(int houses, int house) {
        houseMustBe(house);
        division(houses);
        if (bestTime < 0 || (houses & 1 << house) == 0) {
            return -1;
        }
        int before = Integer.bitCount(houses & (1 << house) - 1);
        return bestGiven[before];
    }

    int plan(int walker, int house) {
        walkerMustBe(walker);
        houseMustBe(house);
        if (planLength(walker) == 12) {
            throw new IllegalStateException();
        }
        keep();
        state.walkers.get(walker).plan.add(house);
        return planLength(walker);
    }

    int unplan(int walker) {
        walkerMustBe(walker);
        if (planLength(walker) == 0) {
            throw new IllegalStateException();
        }
        keep();
        return state.walkers.get(walker).plan.remove(planLength(walker) - 1);
    }

    int setHours(int house, int from, int to) {
        houseMustBe(house);
        if (from < 0 || from > 1439 || to < from + 1 || to > 1440) {
            throw new IllegalArgumentException();
        }
        keep();
        state.houses.get(house).from = from;
        state.houses.get(house).to = to;
        return Integer.bitCount(counted());
    }

    boolean setDog(int house, boolean dog) {
        houseMustBe(house);
        keep();
        boolean had = state.houses.get(house).dog;
        state.houses.get(house).dog = dog;
        return had;
    }

    boolean setOpen(int street, boolean open) {
        boolean was = state.streets.get(street).open;
        keep();
        state.streets.get(street).open = open;
        return was;
    }

    long checksum() {
        List<Long> numbers = new ArrayList<>();
        for (int w = 0; w < state.walkers.size(); w++) {
            numbers.add((long) planLength(w));
            numbers.add((long) finish(w));
            for (int k = 0; k < planLength(w); k++) {
                numbers.add((long) planned(w, k));
                numbers.add((long) result(w, k));
            }
        }
        for (int h = 0; h < state.houses.size(); h++) {
            numbers.add((long) calls(h));
            numbers.add(hasDog(h) ? 1L : 0L);
        }
        for (Street s : state.streets) {
            numbers.add(s.open ? 1L : 0L);
        }
        numbers.add((long) counted());
        long sum = 0;
        for (long n : numbers) {
            sum = 31 * sum + n;
        }
        return sum;
    }
}
