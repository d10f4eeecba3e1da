import java.util.function.ToIntFunction;

/** Promises 16 to 24 and 29 to 33: plans, their simulation, and the changes of houses and streets. */
public final class PlanTest {
    private static final String THREE = "town 3;street 0 1 10;street 1 2 20;street 0 2 50;"
            + "house 0 4 0 3 0 1440;house 1 5 1 2 100 200 dog;house 1 15 0 4 0 1440;";

    public static void main(String[] args) {
        plans();
        fullPlan();
        wrongCalls();
        oneWalker();
        secondCalls();
        gapEdges();
        twoWalkers();
        ties();
        unreachable();
        changes();
        afterMidnight();
        byArrival();
        afterEachChange();
        Check.end();
    }

    private static void plans() {
        CensusWalk walk = Check.town(THREE + "walker 0 90;walker 2 50;");
        Check.same("plan(0, 2)", walk.plan(0, 2), 1);
        Check.same("plan(0, 0)", walk.plan(0, 0), 2);
        Check.same("plan(1, 1)", walk.plan(1, 1), 1);
        Check.same("plan(0, 2)", walk.plan(0, 2), 3);
        Check.same("planLength(0)", walk.planLength(0), 3);
        Check.same("planLength(1)", walk.planLength(1), 1);
        Check.same("planned(0, 0)", walk.planned(0, 0), 2);
        Check.same("planned(0, 1)", walk.planned(0, 1), 0);
        Check.same("planned(0, 2)", walk.planned(0, 2), 2);
        Check.same("planned(1, 0)", walk.planned(1, 0), 1);
        Check.same("unplan(0)", walk.unplan(0), 2);
        Check.same("unplan(0)", walk.unplan(0), 0);
        Check.same("planLength(0)", walk.planLength(0), 1);
        Check.index("planned(0, 1)", () -> walk.planned(0, 1));
        Check.same("unplan(1)", walk.unplan(1), 1);
        Check.state("unplan(1)", () -> walk.unplan(1));
        Check.same("plan(1, 2)", walk.plan(1, 2), 1);
        Check.same("planned(1, 0)", walk.planned(1, 0), 2);
    }

    private static void fullPlan() {
        CensusWalk walk = Check.town(THREE + "walker 0 90;walker 2 50;walker 1 0;");
        for (int walker = 0; walker < 3; walker++) {
            for (int k = 0; k < 12; k++) {
                Check.same("plan", walk.plan(walker, (walker + k) % 3), k + 1);
            }
        }
        for (int walker = 0; walker < 3; walker++) {
            int full = walker;
            Check.state("a full plan", () -> walk.plan(full, 0));
            Check.index("a full plan, the house first", () -> walk.plan(full, 3));
            Check.same("planLength", walk.planLength(walker), 12);
            for (int k = 0; k < 12; k++) {
                Check.same("planned", walk.planned(walker, k), (walker + k) % 3);
            }
            Check.index("planned", () -> walk.planned(full, 12));
        }
        Check.same("counted()", walk.counted(), 7);
        Check.same("undo() after the throws", walk.undo(), 7);
    }

    private static void wrongCalls() {
        CensusWalk walk = Check.town(THREE + "walker 0 90;");
        walk.plan(0, 0);
        for (int bad : new int[] {-1, 1, 3, Integer.MAX_VALUE, Integer.MIN_VALUE}) {
            Check.index("planLength(" + bad + ")", () -> walk.planLength(bad));
            Check.index("planned(" + bad + ", 0)", () -> walk.planned(bad, 0));
            Check.index("result(" + bad + ", 0)", () -> walk.result(bad, 0));
            Check.index("arrival(" + bad + ", 0)", () -> walk.arrival(bad, 0));
            Check.index("planned(0, " + bad + ")", () -> walk.planned(0, bad));
            Check.index("result(0, " + bad + ")", () -> walk.result(0, bad));
            Check.index("arrival(0, " + bad + ")", () -> walk.arrival(0, bad));
            Check.index("finish(" + bad + ")", () -> walk.finish(bad));
            Check.index("plan(" + bad + ", 0)", () -> walk.plan(bad, 0));
            Check.index("unplan(" + bad + ")", () -> walk.unplan(bad));
        }
        for (int bad : new int[] {-1, 3, 16, 32, Integer.MAX_VALUE, Integer.MIN_VALUE}) {
            Check.index("calls(" + bad + ")", () -> walk.calls(bad));
            Check.index("plan(0, " + bad + ")", () -> walk.plan(0, bad));
            Check.index("setHours(" + bad + ", 0, 1)", () -> walk.setHours(bad, 0, 1));
            Check.index("setHours(" + bad + ", 5, 1), the house first", () -> walk.setHours(bad, 5, 1));
            Check.index("setDog(" + bad + ", true)", () -> walk.setDog(bad, true));
            Check.index("setOpen(" + bad + ", true)", () -> walk.setOpen(bad, true));
        }
        Check.argument("setHours(0, -1, 5)", () -> walk.setHours(0, -1, 5));
        Check.argument("setHours(0, 5, 5)", () -> walk.setHours(0, 5, 5));
        Check.argument("setHours(0, 5, 4)", () -> walk.setHours(0, 5, 4));
        Check.argument("setHours(0, 5, 1441)", () -> walk.setHours(0, 5, 1441));
        Check.argument("setHours(0, 1440, 1441)", () -> walk.setHours(0, 1440, 1441));
        Check.argument("setHours(0, 1440, 1440)", () -> walk.setHours(0, 1440, 1440));
        Check.argument("setHours(0, max, min)", () -> walk.setHours(0, Integer.MAX_VALUE, Integer.MIN_VALUE));
        Check.same("planLength(0)", walk.planLength(0), 1);
        Check.same("only load and plan were changes", walk.undo(), 1);
    }

    private static void oneWalker() {
        CensusWalk walk = Check.town(THREE + "walker 0 90;cross 2;gap 30;visit persons*2+dog*5+call;");
        Check.same("finish of an empty plan", walk.finish(0), 90);
        Check.same("finishAll of empty plans", walk.finishAll(), 0);
        for (int house : new int[] {0, 1, 2, 1}) {
            walk.plan(0, house);
        }
        Check.row(walk, 0, 0, CensusWalk.ANSWERED, 94);
        Check.row(walk, 0, 1, CensusWalk.ANSWERED, 112);
        Check.row(walk, 0, 2, CensusWalk.ANSWERED, 134);
        Check.row(walk, 0, 3, CensusWalk.DONE, 155);
        Check.same("finish(0)", walk.finish(0), 155);
        Check.same("finishAll()", walk.finishAll(), 155);
        Check.same("counted()", walk.counted(), 7);
        Check.same("persons()", walk.persons(), 9);
        Check.same("calls(0)", walk.calls(0), 1);
        Check.same("calls(1)", walk.calls(1), 1);
    }

    private static void secondCalls() {
        CensusWalk walk = Check.town("town 2;street 0 1 10;house 0 0 0 5 100 120;house 0 10 0 7 0 1440;walker 0 50;gap 20;visit call*40;");
        for (int house : new int[] {0, 0, 1, 0, 0, 1}) {
            walk.plan(0, house);
        }
        Check.row(walk, 0, 0, CensusWalk.UNANSWERED, 50);
        Check.row(walk, 0, 1, CensusWalk.REFUSED, 51);
        Check.row(walk, 0, 2, CensusWalk.ANSWERED, 61);
        Check.row(walk, 0, 3, CensusWalk.ANSWERED, 111);
        Check.row(walk, 0, 4, CensusWalk.DONE, 191);
        Check.row(walk, 0, 5, CensusWalk.DONE, 201);
        Check.same("the second call is longer", walk.finish(0), 201);
        Check.same("calls(0)", walk.calls(0), 2);
        Check.same("calls(1)", walk.calls(1), 1);
        Check.same("persons()", walk.persons(), 12);
        Check.same("setHours(0, 200, 300)", walk.setHours(0, 200, 300), 1);
        Check.row(walk, 0, 3, CensusWalk.UNANSWERED, 111);
        Check.row(walk, 0, 4, CensusWalk.REFUSED, 112);
        Check.same("counted()", walk.counted(), 2);
        Check.same("persons()", walk.persons(), 7);
        Check.same("calls(0)", walk.calls(0), 2);
        Check.same("finish(0)", walk.finish(0), 122);
    }

    /** A first call at 50 and a second one at 62, with gaps that are over then and gaps that are not. */
    private static void gapEdges() {
        String town = "town 2;street 0 1 10;house 0 0 0 5 0 10;house 0 5 0 7 0 10;walker 0 50;gap ";
        int[] gaps = {11, 12, 13, 14};
        int[] due = {CensusWalk.UNANSWERED, CensusWalk.UNANSWERED, CensusWalk.REFUSED, CensusWalk.REFUSED};
        for (int i = 0; i < gaps.length; i++) {
            CensusWalk walk = Check.town(town + gaps[i] + ";");
            walk.plan(0, 0);
            walk.plan(0, 1);
            walk.plan(0, 0);
            Check.row(walk, 0, 2, due[i], 62);
            Check.same("calls(0)", walk.calls(0), due[i] == CensusWalk.REFUSED ? 1 : 2);
        }
        CensusWalk none = Check.town("town 2;street 0 1 10;house 0 0 0 5 0 10;walker 0 50;walker 0 50;walker 0 50;gap 0;");
        none.plan(0, 0);
        none.plan(1, 0);
        none.plan(2, 0);
        Check.row(none, 0, 0, CensusWalk.UNANSWERED, 50);
        Check.row(none, 1, 0, CensusWalk.UNANSWERED, 50);
        Check.row(none, 2, 0, CensusWalk.REFUSED, 50);
        CensusWalk sixty = Check.town("town 2;street 0 1 99;house 0 0 0 5 0 10;walker 0 50;walker 0 109;walker 0 110;");
        sixty.plan(0, 0);
        sixty.plan(1, 0);
        sixty.plan(2, 0);
        Check.row(sixty, 1, 0, CensusWalk.REFUSED, 109);
        Check.row(sixty, 2, 0, CensusWalk.UNANSWERED, 110);
    }

    private static void twoWalkers() {
        CensusWalk walk = Check.town("town 2;street 0 1 20;house 0 5 0 1 0 1440;house 0 15 0 2 0 1440;house 0 10 0 4 200 300;walker 0 50;walker 1 52;walker 0 700;visit 3;gap 5;");
        walk.plan(0, 0);
        walk.plan(0, 1);
        walk.plan(0, 2);
        walk.plan(1, 1);
        walk.plan(1, 0);
        walk.plan(1, 2);
        Check.row(walk, 0, 0, CensusWalk.ANSWERED, 55);
        Check.row(walk, 1, 0, CensusWalk.ANSWERED, 57);
        Check.row(walk, 0, 1, CensusWalk.DONE, 68);
        Check.row(walk, 1, 1, CensusWalk.DONE, 70);
        Check.row(walk, 0, 2, CensusWalk.UNANSWERED, 73);
        Check.row(walk, 1, 2, CensusWalk.REFUSED, 75);
        Check.same("finish(0)", walk.finish(0), 74);
        Check.same("finish(1)", walk.finish(1), 75);
        Check.same("finish(2)", walk.finish(2), 700);
        Check.same("finishAll() without the empty plan", walk.finishAll(), 75);
        Check.same("counted()", walk.counted(), 3);
        Check.same("persons()", walk.persons(), 3);
    }

    private static void ties() {
        CensusWalk walk = Check.town("town 2;street 0 1 10;house 0 5 0 1 0 1440;walker 0 50;walker 1 50;walker 0 49;");
        walk.plan(1, 0);
        walk.plan(0, 0);
        Check.row(walk, 0, 0, CensusWalk.ANSWERED, 55);
        Check.row(walk, 1, 0, CensusWalk.DONE, 55);
        walk.plan(2, 0);
        Check.row(walk, 0, 0, CensusWalk.DONE, 55);
        Check.row(walk, 2, 0, CensusWalk.ANSWERED, 54);
        Check.same("finish(2)", walk.finish(2), 64);
        Check.same("finish(0)", walk.finish(0), 55);
    }

    private static void unreachable() {
        CensusWalk walk = Check.town("town 4;street 0 1 10;street 2 3 10;street 0 1 30;house 0 4 0 1 0 1440;house 1 5 0 2 0 1440;house 2 0 0 4 0 1440;walker 0 50;visit 5;");
        for (int house : new int[] {1, 0, 1, 2, 1}) {
            walk.plan(0, house);
        }
        Check.row(walk, 0, 0, CensusWalk.UNREACHABLE, 50);
        Check.row(walk, 0, 1, CensusWalk.ANSWERED, 54);
        Check.row(walk, 0, 2, CensusWalk.UNREACHABLE, 59);
        Check.row(walk, 0, 3, CensusWalk.ANSWERED, 63);
        Check.row(walk, 0, 4, CensusWalk.UNREACHABLE, 68);
        Check.same("finish(0)", walk.finish(0), 68);
        Check.same("calls(1)", walk.calls(1), 0);
        Check.same("counted()", walk.counted(), 5);
        Check.same("setOpen(0, false)", walk.setOpen(0, false), true);
        Check.row(walk, 0, 1, CensusWalk.UNREACHABLE, 50);
        Check.row(walk, 0, 3, CensusWalk.ANSWERED, 50);
        Check.same("finish(0)", walk.finish(0), 55);
    }

    private static void changes() {
        CensusWalk walk = Check.town(THREE + "walker 0 90;visit 10+dog*7;");
        walk.plan(0, 0);
        walk.plan(0, 1);
        Check.same("finish(0)", walk.finish(0), 132);
        Check.same("setDog(1, false)", walk.setDog(1, false), true);
        Check.same("hasDog(1)", walk.hasDog(1), false);
        Check.same("finish(0) without the dog", walk.finish(0), 125);
        Check.same("setDog(1, false)", walk.setDog(1, false), false);
        Check.same("setDog(0, true)", walk.setDog(0, true), false);
        Check.same("hasDog(0)", walk.hasDog(0), true);
        Check.same("finish(0) with the other dog", walk.finish(0), 132);
        Check.same("setHours(1, 0, 1)", walk.setHours(1, 0, 1), 1);
        Check.same("isHome(1, 0)", walk.isHome(1, 0), true);
        Check.same("isHome(1, 1)", walk.isHome(1, 1), false);
        Check.same("setHours(0, 1439, 1440)", walk.setHours(0, 1439, 1440), 0);
        Check.same("isHome(0, 1438)", walk.isHome(0, 1438), false);
        Check.same("isHome(0, 1439)", walk.isHome(0, 1439), true);
        Check.same("setHours(0, 0, 1440)", walk.setHours(0, 0, 1440), 1);
        Check.same("setHours(1, 0, 1440)", walk.setHours(1, 0, 1440), 2);
        Check.same("setOpen(2, false)", walk.setOpen(2, false), true);
        Check.same("isOpen(2)", walk.isOpen(2), false);
        Check.same("setOpen(2, false)", walk.setOpen(2, false), false);
        Check.same("setOpen(2, true)", walk.setOpen(2, true), false);
        Check.same("isOpen(2)", walk.isOpen(2), true);
        Check.same("isOpen(1)", walk.isOpen(1), true);
    }

    private static void afterMidnight() {
        CensusWalk walk = Check.town("town 2;street 0 1 99;house 0 0 0 1 0 1440;house 0 99 0 1 0 1440;house 0 50 0 1 0 1440;walker 0 1439;walker 0 1440;visit 9999;gap 0;");
        walk.plan(0, 0);
        walk.plan(0, 1);
        walk.plan(1, 2);
        walk.plan(1, 2);
        walk.plan(1, 2);
        Check.row(walk, 0, 0, CensusWalk.ANSWERED, 1439);
        Check.row(walk, 0, 1, CensusWalk.UNANSWERED, 1778);
        Check.row(walk, 1, 0, CensusWalk.UNANSWERED, 1490);
        Check.row(walk, 1, 1, CensusWalk.UNANSWERED, 1491);
        Check.row(walk, 1, 2, CensusWalk.REFUSED, 1492);
        Check.same("finishAll()", walk.finishAll(), 1779);
    }

    /** The walker who arrives first is treated first, not the one who sets out first; UNREACHABLE takes no time. */
    private static void byArrival() {
        CensusWalk walk = Check.town("town 2;street 0 1 50;house 0 20 0 1 0 1440;walker 0 50;walker 1 30;walker 0 49;");
        walk.plan(0, 0);
        walk.plan(1, 0);
        Check.row(walk, 0, 0, CensusWalk.DONE, 70);
        Check.row(walk, 1, 0, CensusWalk.ANSWERED, 60);
        Check.same("setHours(0, 0, 1440)", walk.setHours(0, 0, 1440), 1);
        CensusWalk tie = Check.town("town 4;street 0 1 50;street 2 3 5;house 0 0 0 1 0 1440;house 1 0 0 1 0 1440;walker 0 60;walker 0 60;");
        tie.plan(0, 1);
        tie.plan(0, 1);
        tie.plan(0, 0);
        tie.plan(1, 0);
        Check.row(tie, 0, 2, CensusWalk.ANSWERED, 60);
        Check.row(tie, 1, 0, CensusWalk.DONE, 60);
        Check.load(tie, "town 4;street 0 1 50;street 2 3 5;house 0 0 0 1 0 1440;house 1 0 0 1 0 1440;walker 0 60;walker 0 60;");
        tie.plan(0, 0);
        tie.plan(1, 1);
        tie.plan(1, 0);
        Check.row(tie, 0, 0, CensusWalk.ANSWERED, 60);
        Check.row(tie, 1, 1, CensusWalk.DONE, 60);
        Check.load(tie, "town 4;street 0 1 50;street 2 3 5;house 0 0 0 1 0 1440;house 0 1 0 1 0 1440;walker 0 60;walker 0 60;visit 1;");
        tie.plan(0, 0);
        Check.same("finishAll() of a plan of one house", tie.finishAll(), 61);
    }

    /** Each question as the very first one after a change, and again after an undo. */
    private static void afterEachChange() {
        first("result", walk -> walk.result(0, 1), CensusWalk.ANSWERED, CensusWalk.UNREACHABLE);
        first("arrival", walk -> walk.arrival(0, 1), 115, 104);
        first("finish", walk -> walk.finish(0), 125, 104);
        first("finishAll", CensusWalk::finishAll, 125, 104);
        first("counted", CensusWalk::counted, 3, 1);
        first("persons", CensusWalk::persons, 5, 3);
        first("calls", walk -> walk.calls(1), 1, 0);
        first("distance", walk -> walk.distance(0, 1), 11, -1);
        first("distanceFrom", walk -> walk.distanceFrom(0, 1), 15, -1);
        first("soonest", walk -> walk.soonest(0, 2), 115, -1);
        first("soonestOrder", walk -> walk.soonestOrder(0, 2, 0), 1, -1);
        first("division", walk -> walk.division(2), 115, -1);
        first("walkerOf", walk -> walk.walkerOf(2, 1), 0, -1);
        first("checksum", walk -> walk.checksum() == closedSum(false) ? 1 : 0, 1, 0);
        first("checksum", walk -> walk.checksum() == closedSum(true) ? 1 : 0, 0, 1);
    }

    private static void first(String name, ToIntFunction<CensusWalk> question, int open, int closed) {
        CensusWalk walk = walkOfTwo();
        Check.same("first " + name, question.applyAsInt(walk), open);
        walk.setOpen(1, false);
        Check.same(name + " after setOpen", question.applyAsInt(walk), closed);
        walk.undo();
        Check.same(name + " after undo", question.applyAsInt(walk), open);
        CensusWalk other = walkOfTwo();
        other.setOpen(1, false);
        Check.same("first " + name + " after setOpen", question.applyAsInt(other), closed);
    }

    private static CensusWalk walkOfTwo() {
        CensusWalk walk = Check.town(THREE + "walker 0 90;");
        walk.plan(0, 0);
        walk.plan(0, 1);
        return walk;
    }

    private static long closedSum(boolean closed) {
        CensusWalk walk = walkOfTwo();
        walk.finish(0);
        walk.setOpen(1, !closed);
        walk.finish(0);
        return walk.checksum();
    }
}
