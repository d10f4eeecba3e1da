import java.util.Random;
import java.util.function.LongSupplier;

/** Long runs of calls, the same ones each time, on the class and on the model; all answers must agree. */
public final class RandomRunsTest {
    private static final int RUNS = 1500;
    private static final int CALLS = 150;

    private final Random random;
    private final CensusWalk walk = new CensusWalk();
    private final Model model = new Model();
    private final String name;

    private RandomRunsTest(int run) {
        random = new Random(run);
        name = "run " + run + ": ";
    }

    public static void main(String[] args) {
        for (int run = 0; run < RUNS; run++) {
            new RandomRunsTest(run).go();
        }
        Check.end();
    }

    private void go() {
        load(new RandomText(random).whole());
        for (int i = 0; i < CALLS; i++) {
            call();
        }
        everything();
    }

    private void call() {
        int kind = random.nextInt(100);
        if (kind < 1) {
            load(new RandomText(random).whole());
        } else if (kind < 4) {
            load(new RandomText(random).spoiled());
        } else if (kind < 30) {
            int walker = walker();
            int house = house();
            compare("plan(" + walker + ", " + house + ")", () -> walk.plan(walker, house), () -> model.plan(walker, house));
        } else if (kind < 34) {
            int walker = walker();
            compare("unplan(" + walker + ")", () -> walk.unplan(walker), () -> model.unplan(walker));
        } else if (kind < 40) {
            hours();
        } else if (kind < 43) {
            int house = house();
            boolean dog = random.nextBoolean();
            compare("setDog(" + house + ", " + dog + ")", () -> number(walk.setDog(house, dog)), () -> number(model.setDog(house, dog)));
        } else if (kind < 48) {
            int street = index(model.state.streets.size());
            boolean open = random.nextInt(3) > 0;
            compare("setOpen(" + street + ", " + open + ")", () -> number(walk.setOpen(street, open)), () -> number(model.setOpen(street, open)));
        } else if (kind < 56) {
            compare("undo()", walk::undo, model::undo);
        } else if (kind < 70) {
            simulation();
        } else if (kind < 85) {
            town();
        } else {
            search();
        }
    }

    private void hours() {
        int house = house();
        int from = random.nextInt(20) == 0 ? random.nextInt(1500) - 30 : random.nextInt(300);
        int to = random.nextInt(20) == 0 ? random.nextInt(1500) : from + 1 + random.nextInt(200);
        compare("setHours(" + house + ", " + from + ", " + to + ")", () -> walk.setHours(house, from, to), () -> model.setHours(house, from, to));
    }

    private void simulation() {
        int walker = walker();
        int house = house();
        int k = random.nextInt(10) - 1;
        compare("planLength(" + walker + ")", () -> walk.planLength(walker), () -> model.planLength(walker));
        compare("planned(" + walker + ", " + k + ")", () -> walk.planned(walker, k), () -> model.planned(walker, k));
        compare("result(" + walker + ", " + k + ")", () -> walk.result(walker, k), () -> model.result(walker, k));
        compare("arrival(" + walker + ", " + k + ")", () -> walk.arrival(walker, k), () -> model.arrival(walker, k));
        compare("finish(" + walker + ")", () -> walk.finish(walker), () -> model.finish(walker));
        compare("calls(" + house + ")", () -> walk.calls(house), () -> model.calls(house));
        compare("finishAll()", walk::finishAll, model::finishAll);
        compare("counted()", walk::counted, model::counted);
        compare("persons()", walk::persons, model::persons);
        compare("checksum()", walk::checksum, model::checksum);
    }

    private void town() {
        int one = house();
        int other = house();
        int crossing = index(model.state.crossings);
        int street = index(model.state.streets.size());
        int time = random.nextInt(10) == 0 ? random.nextInt(10100) - 50 : random.nextInt(400);
        int call = random.nextInt(4);
        compare("distance(" + one + ", " + other + ")", () -> walk.distance(one, other), () -> model.distance(one, other));
        compare("distanceFrom(" + crossing + ", " + one + ")", () -> walk.distanceFrom(crossing, one), () -> model.distanceFrom(crossing, one));
        compare("streetOf(" + one + ")", () -> walk.streetOf(one), () -> model.streetOf(one));
        compare("isOpen(" + street + ")", () -> number(walk.isOpen(street)), () -> number(model.isOpen(street)));
        compare("hasDog(" + one + ")", () -> number(walk.hasDog(one)), () -> number(model.hasDog(one)));
        compare("isHome(" + one + ", " + time + ")", () -> number(walk.isHome(one, time)), () -> number(model.isHome(one, time)));
        compare("duration(" + one + ", " + call + ")", () -> walk.duration(one, call), () -> model.duration(one, call));
    }

    private void search() {
        int walker = walker();
        int set = set();
        int house = house();
        int k = random.nextInt(7) - 1;
        compare("soonest(" + walker + ", " + set + ")", () -> walk.soonest(walker, set), () -> model.soonest(walker, set));
        compare("soonestOrder(" + walker + ", " + set + ", " + k + ")", () -> walk.soonestOrder(walker, set, k), () -> model.soonestOrder(walker, set, k));
        compare("division(" + set + ")", () -> walk.division(set), () -> model.division(set));
        compare("walkerOf(" + set + ", " + house + ")", () -> walk.walkerOf(set, house), () -> model.walkerOf(set, house));
    }

    private void everything() {
        counts();
        for (int w = 0; w < model.state.walkers.size(); w++) {
            int walker = w;
            for (int i = 0; i < model.planLength(walker); i++) {
                int k = i;
                compare("at the end result", () -> walk.result(walker, k), () -> model.result(walker, k));
                compare("at the end arrival", () -> walk.arrival(walker, k), () -> model.arrival(walker, k));
            }
        }
        for (int h = 0; h < model.state.houses.size(); h++) {
            int one = h;
            for (int i = 0; i < model.state.houses.size(); i++) {
                int other = i;
                compare("at the end distance(" + one + ", " + other + ")", () -> walk.distance(one, other), () -> model.distance(one, other));
            }
        }
        compare("checksum()", walk::checksum, model::checksum);
        for (int i = 0; i < 9; i++) {
            compare("undo()", walk::undo, model::undo);
            counts();
            compare("checksum()", walk::checksum, model::checksum);
        }
    }

    private void counts() {
        Check.same(name + "crossingCount()", walk.crossingCount(), model.state.crossings);
        Check.same(name + "streetCount()", walk.streetCount(), model.state.streets.size());
        Check.same(name + "houseCount()", walk.houseCount(), model.state.houses.size());
        Check.same(name + "walkerCount()", walk.walkerCount(), model.state.walkers.size());
    }

    private void load(String text) {
        StringBuilder padded = new StringBuilder(text);
        while (padded.length() % 20 != 0) {
            padded.append(random.nextBoolean() ? ' ' : ';');
        }
        for (int at = 0; at < padded.length(); at += 20) {
            String twenty = padded.substring(at, at + 20);
            compare("append", () -> append(twenty), () -> model.append(twenty));
        }
        int length = random.nextInt(40) == 0 ? random.nextInt(1000) - 30 : Math.min(text.length(), model.bufferLength());
        compare("load(" + length + ") of " + text, () -> walk.load(length), () -> model.load(length));
        compare("errorOffset() of " + text, walk::errorOffset, model::errorOffset);
        counts();
    }

    private int append(String twenty) {
        int[] words = new int[5];
        for (int i = 0; i < 20; i++) {
            words[i / 4] = words[i / 4] << 8 | twenty.charAt(i);
        }
        return walk.append(words[0], words[1], words[2], words[3], words[4]);
    }

    private int walker() {
        return index(model.state.walkers.size());
    }

    private int house() {
        return index(model.state.houses.size());
    }

    /** Mostly an index that exists; now and then one beside the ends. */
    private int index(int count) {
        if (count == 0 || random.nextInt(15) == 0) {
            return random.nextBoolean() ? -1 : count;
        }
        return random.nextInt(count);
    }

    private int set() {
        int count = model.state.houses.size();
        if (random.nextInt(15) == 0) {
            return random.nextBoolean() ? random.nextInt() : random.nextInt(1 << Math.min(count + 1, 16));
        }
        int set = 0;
        int members = random.nextInt(6);
        for (int i = 0; i < members && count > 0; i++) {
            set |= 1 << random.nextInt(count);
        }
        return set;
    }

    private static int number(boolean answer) {
        return answer ? 1 : 0;
    }

    private void compare(String what, LongSupplier got, LongSupplier due) {
        String want = answer(due);
        String have = answer(got);
        if (!have.equals(want)) {
            System.out.println(name + what + " answered " + have + ", due is " + want);
        }
        Check.same(name + what, have.equals(want), true);
    }

    private static String answer(LongSupplier call) {
        try {
            return Long.toString(call.getAsLong());
        } catch (RuntimeException e) {
            return e.getClass().getName();
        }
    }
}
