/** The boundary cases that the document names for walkers, their plans and the simulation. */
public final class WalkBoundaryTest {
    private static final int ANSWERED = CensusWalk.ANSWERED;
    private static final int UNANSWERED = CensusWalk.UNANSWERED;
    private static final int DONE = CensusWalk.DONE;
    private static final int REFUSED = CensusWalk.REFUSED;
    private static final int UNREACHABLE = CensusWalk.UNREACHABLE;
    /** House 0 at crossing 0, house 1 at crossing 1, 10 minutes away; nobody is at home in house 2 when it matters. */
    private static final String LINE = "town 2;street 0 1 10;house 0 0 0 1 0 1440;house 0 10 0 2 0 1440;house 0 0 0 4 1439 1440;";
    private static final String EMPTY = "town 2;street 0 1 10;house 0 0 0 1 1439 1440;";

    public static void main(String[] args) throws IllegalAccessException {
        Boundaries.run(WalkBoundaryTest.class);
    }

    @Says(in = "Description", value = "There are at most 3 walkers.")
    static void numberOfWalkers() {
        Check.same("no walker", Check.town("town 1;").walkerCount(), 0);
        CensusWalk three = Check.town("town 1;walker 0 5;walker 0 6;walker 0 7;");
        Check.same("three walkers", three.walkerCount(), 3);
        Check.same("the third", three.finish(2), 7);
        Check.wrong("town 1;walker 0 5;walker 0 6;walker 0 7;walker 0 8;", CensusWalk.TOO_MANY, 40);
    }

    @Says(in = "Description", value = "A walker has a start crossing and a start time (0 to 1440).")
    static void startOfAWalker() {
        CensusWalk walk = Check.town("town 10;walker 0 0;walker 9 1440;");
        Check.same("start time 0", walk.finish(0), 0);
        Check.same("start time 1440", walk.finish(1), 1440);
        Check.wrong("town 10;walker 0 1441;", CensusWalk.OUT_OF_RANGE, 17);
        Check.wrong("town 10;walker 10 0;", CensusWalk.OUT_OF_RANGE, 15);
        Check.wrong("town 1;walker 1 0;", CensusWalk.OUT_OF_RANGE, 14);
    }

    @Says(in = "Description", value = "The plan of a walker is a list of at most 12 houses")
    static void twelveHouses() {
        CensusWalk walk = Check.town(LINE + "walker 0 5;walker 1 5;walker 0 6;");
        for (int walker = 2; walker >= 0; walker--) {
            int full = walker;
            for (int k = 0; k < 12; k++) {
                Check.same("plan", walk.plan(walker, (walker + k) % 3), k + 1);
            }
            Check.state("a thirteenth house", () -> walk.plan(full, 0));
        }
        for (int walker = 0; walker < 3; walker++) {
            Check.same("planLength", walk.planLength(walker), 12);
            for (int k = 0; k < 12; k++) {
                Check.same("planned", walk.planned(walker, k), (walker + k) % 3);
            }
        }
    }

    @Says(in = "Description", value = "a house may be in several plans, and several times in one.")
    static void onlyOneHouse() {
        CensusWalk walk = Check.town("town 2;street 0 1 10;house 0 0 0 1 0 10;walker 0 50;walker 0 70;walker 0 110;gap 60;");
        for (int walker = 0; walker < 3; walker++) {
            for (int k = 0; k < 12; k++) {
                walk.plan(walker, 0);
            }
        }
        for (int k = 0; k < 12; k++) {
            Check.row(walk, 0, k, k == 0 ? UNANSWERED : REFUSED, k == 0 ? 50 : 51);
            Check.row(walk, 1, k, REFUSED, 70);
            Check.row(walk, 2, k, k == 0 ? UNANSWERED : REFUSED, k == 0 ? 110 : 111);
        }
        Check.same("calls(0)", walk.calls(0), 2);
        Check.same("finishAll()", walk.finishAll(), 111);
    }

    @Says(in = "Description", value = "At first each walker is at the start crossing at the start time.")
    static void atTheStart() {
        CensusWalk walk = Check.planned(LINE + "walker 0 0;walker 1 1440;", 0, 0, 1, 1);
        Check.row(walk, 0, 0, ANSWERED, 0);
        Check.row(walk, 1, 0, UNANSWERED, 1440);
    }

    /** Walker 1's plan is empty, later too short: that walker stands at an earlier time and must be passed over. */
    @Says(in = "Description", value = "For each walker whose plan has further houses, consider the next one: the arrival is the walker's time plus the distance to the house; if there is no distance, the arrival is the walker's time.")
    static void walkersWithFurtherHouses() {
        String text = "town 4;street 0 1 10;street 2 3 10;house 0 0 0 1 0 1440;house 0 10 0 2 0 1440;house 1 0 0 4 0 1440;visit 3;";
        CensusWalk walk = Check.planned(text + "walker 0 50;walker 1 20;", 0, 1, 0, 0);
        Check.row(walk, 0, 0, ANSWERED, 60);
        Check.row(walk, 0, 1, ANSWERED, 73);
        walk.plan(1, 1);
        Check.row(walk, 1, 0, ANSWERED, 20);
        Check.row(walk, 0, 0, DONE, 60);
        Check.row(walk, 0, 1, ANSWERED, 70);
        CensusWalk none = Check.planned(text + "walker 0 50;walker 2 50;", 0, 2, 0, 0, 1, 0, 1, 2);
        Check.row(none, 0, 0, UNREACHABLE, 50);
        Check.row(none, 0, 1, ANSWERED, 50);
        Check.row(none, 1, 0, UNREACHABLE, 50);
        Check.row(none, 1, 1, ANSWERED, 50);
        CensusWalk both = Check.planned(text + "walker 0 50;walker 0 50;", 0, 2, 0, 2, 0, 0, 1, 2, 1, 0);
        Check.row(both, 0, 2, ANSWERED, 50);
        Check.row(both, 1, 1, DONE, 50);
        CensusWalk second = Check.planned(text + "walker 0 50;walker 0 49;", 0, 0, 1, 2, 1, 0);
        Check.row(second, 0, 0, DONE, 50);
        Check.row(second, 1, 0, UNREACHABLE, 49);
        Check.row(second, 1, 1, ANSWERED, 49);
    }

    @Says(in = "Description", value = "In each step the walker with the smallest arrival is treated, of several the one with the smallest index:")
    static void smallestArrivalThenSmallestIndex() {
        String middle = "town 2;street 0 1 10;house 0 5 0 1 0 1440;";
        CensusWalk tie = Check.planned(middle + "walker 0 50;walker 1 50;walker 0 50;", 2, 0, 1, 0, 0, 0);
        Check.row(tie, 0, 0, ANSWERED, 55);
        Check.row(tie, 1, 0, DONE, 55);
        Check.row(tie, 2, 0, DONE, 55);
        CensusWalk second = Check.planned(middle + "walker 0 51;walker 1 50;walker 0 50;", 0, 0, 1, 0, 2, 0);
        Check.row(second, 0, 0, DONE, 56);
        Check.row(second, 1, 0, ANSWERED, 55);
        Check.row(second, 2, 0, DONE, 55);
        CensusWalk third = Check.planned(middle + "walker 0 50;walker 1 50;walker 0 49;", 0, 0, 1, 0, 2, 0);
        Check.row(third, 0, 0, DONE, 55);
        Check.row(third, 1, 0, DONE, 55);
        Check.row(third, 2, 0, ANSWERED, 54);
        CensusWalk here = Check.planned("town 2;street 0 1 10;house 0 1 0 1 0 1440;house 0 0 0 1 0 1440;walker 1 41;walker 0 49;walker 0 50;", 0, 1, 1, 0, 2, 1);
        Check.row(here, 0, 0, DONE, 51);
        Check.row(here, 1, 0, ANSWERED, 50);
        Check.row(here, 2, 0, ANSWERED, 50);
        CensusWalk farther = Check.planned("town 2;street 0 1 10;house 0 2 0 1 0 1440;walker 1 45;walker 0 50;", 0, 0, 1, 0);
        Check.row(farther, 0, 0, DONE, 53);
        Check.row(farther, 1, 0, ANSWERED, 52);
        smallestArrivalAtLaterHouses();
    }

    /** One walker has a short way to the first house and a long one to the second, the other one just the reverse. */
    private static void smallestArrivalAtLaterHouses() {
        String street = "town 2;street 0 1 30;house 0 0 0 1 0 1440;house 0 20 0 2 0 1440;house 0 24 0 4 0 1440;visit 1;";
        CensusWalk second = Check.planned(street + "walker 0 50;walker 0 48;", 0, 0, 0, 2, 1, 1, 1, 2);
        Check.row(second, 0, 0, ANSWERED, 50);
        Check.row(second, 0, 1, DONE, 75);
        Check.row(second, 1, 0, ANSWERED, 68);
        Check.row(second, 1, 1, ANSWERED, 73);
        CensusWalk first = Check.planned(street + "walker 0 50;walker 0 52;", 0, 1, 0, 2, 1, 0, 1, 2);
        Check.row(first, 0, 1, ANSWERED, 75);
        Check.row(first, 1, 1, DONE, 77);
        CensusWalk same = Check.planned(street + "walker 0 50;walker 0 50;", 0, 1, 0, 2, 1, 0, 1, 2);
        Check.row(same, 0, 1, ANSWERED, 75);
        Check.row(same, 1, 1, DONE, 75);
    }

    @Says(in = "Description", value = "If there is no distance, the result is UNREACHABLE; the walker's place and time stay.")
    static void unreachable() {
        CensusWalk walk = Check.planned("town 4;street 0 1 10;street 2 3 10;house 0 2 0 1 0 1440;house 1 0 0 2 0 1440;house 0 7 0 4 0 1440;walker 1 50;visit 5;",
                0, 1, 0, 0, 0, 1, 0, 1, 0, 2, 0, 1);
        Check.row(walk, 0, 0, UNREACHABLE, 50);
        Check.row(walk, 0, 1, ANSWERED, 58);
        Check.row(walk, 0, 2, UNREACHABLE, 63);
        Check.row(walk, 0, 3, UNREACHABLE, 63);
        Check.row(walk, 0, 4, ANSWERED, 68);
        Check.row(walk, 0, 5, UNREACHABLE, 73);
        Check.same("finish(0)", walk.finish(0), 73);
        Check.same("calls(1)", walk.calls(1), 0);
        Check.same("counted()", walk.counted(), 5);
    }

    @Says(in = "Description", value = "Otherwise the walker goes to the house; the walker's time is the arrival t now.")
    static void goingWithoutACall() {
        CensusWalk walk = Check.planned(LINE + "walker 0 50;visit 1;", 0, 0, 0, 1, 0, 0, 0, 1);
        Check.row(walk, 0, 2, DONE, 72);
        Check.row(walk, 0, 3, DONE, 82);
        Check.same("finish(0)", walk.finish(0), 82);
        CensusWalk here = Check.planned(LINE + "walker 0 50;visit 1;", 0, 0, 0, 0);
        Check.row(here, 0, 1, DONE, 51);
    }

    /** A counted house is DONE even where a call on it would be refused: within the gap, and after two calls. */
    @Says(in = "Description", value = "If the house has been counted, the result is DONE.")
    static void done() {
        CensusWalk first = Check.planned(LINE + "walker 0 50;gap 600;", 0, 0, 0, 0);
        Check.row(first, 0, 0, ANSWERED, 50);
        Check.row(first, 0, 1, DONE, 60);
        CensusWalk second = Check.planned("town 2;street 0 1 10;house 0 0 0 1 51 1440;walker 0 50;gap 0;", 0, 0, 0, 0, 0, 0);
        Check.row(second, 0, 0, UNANSWERED, 50);
        Check.row(second, 0, 1, ANSWERED, 51);
        Check.row(second, 0, 2, DONE, 61);
        Check.same("calls(0)", second.calls(0), 2);
    }

    @Says(in = "Description", value = "If it has been called on twice")
    static void calledOnTwice() {
        CensusWalk walk = Check.planned("town 2;street 0 1 10;house 0 0 0 1 52 1440;walker 0 50;gap 0;", 0, 0, 0, 0, 0, 0);
        Check.row(walk, 0, 0, UNANSWERED, 50);
        Check.row(walk, 0, 1, UNANSWERED, 51);
        Check.row(walk, 0, 2, REFUSED, 52);
        Check.same("calls(0)", walk.calls(0), 2);
        Check.same("counted()", walk.counted(), 0);
        CensusWalk later = Check.planned("town 2;street 0 1 10;house 0 0 0 1 500 1440;walker 0 0;walker 0 60;walker 0 500;", 0, 0, 1, 0, 2, 0);
        Check.row(later, 1, 0, UNANSWERED, 60);
        Check.row(later, 2, 0, REFUSED, 500);
    }

    @Says(in = "Description", value = "or if it has been called on once at a time greater than t minus the gap, the result is REFUSED.")
    static void withinTheGap() {
        int[] gaps = {0, 1, 2, 60, 600};
        for (int gap : gaps) {
            String text = EMPTY + "gap " + gap + ";walker 0 100;walker 0 ";
            Check.row(Check.planned(text + (100 + gap) + ";", 0, 0, 1, 0), 1, 0, UNANSWERED, 100 + gap);
            if (gap > 0) {
                Check.row(Check.planned(text + (99 + gap) + ";", 0, 0, 1, 0), 1, 0, REFUSED, 99 + gap);
            }
        }
        CensusWalk midnight = Check.planned(EMPTY + "gap 600;walker 0 0;walker 0 0;walker 0 600;", 0, 0, 1, 0, 2, 0);
        Check.row(midnight, 0, 0, UNANSWERED, 0);
        Check.row(midnight, 1, 0, REFUSED, 0);
        Check.row(midnight, 2, 0, UNANSWERED, 600);
    }

    @Says(in = "Description", value = "In both cases no call takes place and no more time passes.")
    static void doneAndRefusedTakeNoTime() {
        CensusWalk walk = Check.planned(LINE + "walker 0 50;walker 0 110;gap 60;", 0, 0, 0, 0, 0, 2, 0, 2, 0, 2, 1, 2);
        Check.row(walk, 0, 1, DONE, 60);
        Check.row(walk, 0, 2, UNANSWERED, 60);
        Check.row(walk, 0, 3, REFUSED, 61);
        Check.row(walk, 0, 4, REFUSED, 61);
        Check.same("finish(0)", walk.finish(0), 61);
        Check.row(walk, 1, 0, REFUSED, 110);
        Check.same("finish(1)", walk.finish(1), 110);
        Check.same("calls(0)", walk.calls(0), 1);
        Check.same("calls(2)", walk.calls(2), 1);
    }

    /** The gap counts from the call itself: a refusal in between does not put it off. */
    @Says(in = "Description", value = "Otherwise the walker calls on the house: this is its first or second call.")
    static void firstAndSecondCall() {
        CensusWalk walk = Check.planned("town 2;street 0 1 10;house 0 0 0 1 110 1440;walker 0 50;walker 0 80;walker 0 110;visit call*40;", 0, 0, 1, 0, 2, 0);
        Check.row(walk, 0, 0, UNANSWERED, 50);
        Check.row(walk, 1, 0, REFUSED, 80);
        Check.row(walk, 2, 0, ANSWERED, 110);
        Check.same("the second call, by another walker", walk.finish(2), 190);
        Check.same("calls(0)", walk.calls(0), 2);
        walk.setHours(0, 50, 1440);
        Check.same("the first call", walk.finish(0), 90);
        Check.same("calls(0)", walk.calls(0), 1);
    }

    @Says(in = "Description", value = "If somebody is at home at t, the result is ANSWERED, the house is counted, and the walker's time increases by the duration of the visit.")
    static void answeredAtTheEndsOfTheHours() {
        for (int[] hours : new int[][] {{50, 51}, {50, 1440}, {0, 51}}) {
            CensusWalk walk = Check.planned("town 2;street 0 1 10;house 0 0 0 7 " + hours[0] + " " + hours[1] + ";walker 0 50;visit 240;", 0, 0);
            Check.row(walk, 0, 0, ANSWERED, 50);
            Check.same("finish(0)", walk.finish(0), 290);
            Check.same("counted()", walk.counted(), 1);
            Check.same("persons()", walk.persons(), 7);
        }
    }

    @Says(in = "Description", value = "Otherwise the result is UNANSWERED, and the walker's time increases by 1.")
    static void unansweredBesideTheHours() {
        for (int[] hours : new int[][] {{51, 52}, {51, 1440}, {0, 50}, {49, 50}}) {
            CensusWalk walk = Check.planned("town 2;street 0 1 10;house 0 0 0 7 " + hours[0] + " " + hours[1] + ";walker 0 50;visit 240;", 0, 0);
            Check.row(walk, 0, 0, UNANSWERED, 50);
            Check.same("finish(0)", walk.finish(0), 51);
            Check.same("counted()", walk.counted(), 0);
            Check.same("calls(0)", walk.calls(0), 1);
        }
    }

    @Says(in = "Description", value = "The finish of a walker is the walker's time after the whole plan.")
    static void finishOfEmptyAndFullPlans() {
        CensusWalk walk = Check.town(LINE + "walker 0 50;walker 0 1440;");
        Check.same("an empty plan", walk.finish(0), 50);
        Check.same("an empty plan", walk.finish(1), 1440);
        for (int k = 0; k < 12; k++) {
            walk.plan(0, k % 2);
        }
        Check.same("a plan of 12", walk.finish(0), 50 + 10 + 10 + 10 + 10 * 10);
        for (int k = 0; k < 12; k++) {
            walk.unplan(0);
        }
        Check.same("an empty plan again", walk.finish(0), 50);
    }
}
