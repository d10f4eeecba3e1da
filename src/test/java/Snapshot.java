import java.util.ArrayList;
import java.util.List;

/** All that can be asked of an object without changing it, but for its input buffer and its error offset. */
final class Snapshot {
    private Snapshot() {
    }

    static List<Long> of(CensusWalk walk) {
        List<Long> answers = new ArrayList<>();
        town(walk, answers);
        for (int house = 0; house < walk.houseCount(); house++) {
            house(walk, house, answers);
        }
        for (int walker = 0; walker < walk.walkerCount(); walker++) {
            walker(walk, walker, answers);
        }
        add(answers, walk.finishAll(), walk.counted(), walk.persons(), walk.checksum());
        return answers;
    }

    private static void town(CensusWalk walk, List<Long> answers) {
        add(answers, walk.crossingCount(), walk.streetCount(), walk.houseCount(), walk.walkerCount());
        for (int street = 0; street < walk.streetCount(); street++) {
            add(answers, walk.isOpen(street) ? 1 : 0);
        }
        for (int set = 0; set < 1 << Math.min(walk.houseCount(), 4); set++) {
            add(answers, walk.division(set));
        }
    }

    private static void house(CensusWalk walk, int house, List<Long> answers) {
        add(answers, walk.streetOf(house), walk.hasDog(house) ? 1 : 0, walk.duration(house, 1), walk.duration(house, 2), walk.calls(house));
        for (int time = 0; time <= 1440; time++) {
            add(answers, walk.isHome(house, time) ? 1 : 0);
        }
        for (int other = 0; other < walk.houseCount(); other++) {
            add(answers, walk.distance(house, other));
        }
        for (int crossing = 0; crossing < walk.crossingCount(); crossing++) {
            add(answers, walk.distanceFrom(crossing, house));
        }
    }

    private static void walker(CensusWalk walk, int walker, List<Long> answers) {
        add(answers, walk.planLength(walker), walk.finish(walker));
        for (int k = 0; k < walk.planLength(walker); k++) {
            add(answers, walk.planned(walker, k), walk.result(walker, k), walk.arrival(walker, k));
        }
        for (int house = 0; house < walk.houseCount(); house++) {
            add(answers, walk.soonest(walker, 1 << house));
        }
    }

    private static void add(List<Long> answers, long... more) {
        for (long answer : more) {
            answers.add(answer);
        }
    }
}
