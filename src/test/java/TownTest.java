/** Promises 9 to 15: distances, streets, dogs, hours and durations. */
public final class TownTest {
    public static void main(String[] args) {
        distances();
        sameStreet();
        severalStreets();
        closedStreets();
        wrongIndexes();
        simpleAnswers();
        durations();
        Check.end();
    }

    private static void distances() {
        CensusWalk walk = Check.town("town 5;street 0 1 10;street 1 2 20;street 0 2 50;street 3 4 7;"
                + "house 0 4 0 3 0 1440;house 1 5 1 2 0 1440;house 2 45 0 4 0 1440;house 3 2 0 1 0 1440;cross 9;");
        Check.same("distanceFrom(0, 0)", walk.distanceFrom(0, 0), 4);
        Check.same("distanceFrom(1, 0)", walk.distanceFrom(1, 0), 6);
        Check.same("distanceFrom(2, 0)", walk.distanceFrom(2, 0), 26);
        Check.same("over the end of the street", walk.distanceFrom(0, 2), 35);
        Check.same("distanceFrom(2, 2)", walk.distanceFrom(2, 2), 5);
        Check.same("distanceFrom(3, 0)", walk.distanceFrom(3, 0), -1);
        Check.same("distanceFrom(0, 3)", walk.distanceFrom(0, 3), -1);
        Check.same("distanceFrom(4, 3)", walk.distanceFrom(4, 3), 5);
        Check.same("no crossing time on different streets", walk.distance(0, 1), 11);
        Check.same("distance(1, 0)", walk.distance(1, 0), 11);
        Check.same("distance(0, 2)", walk.distance(0, 2), 31);
        Check.same("distance(2, 0)", walk.distance(2, 0), 31);
        Check.same("distance(0, 3)", walk.distance(0, 3), -1);
        Check.same("distance(3, 3)", walk.distance(3, 3), 0);
    }

    private static void sameStreet() {
        CensusWalk walk = Check.town("town 3;street 0 1 90;street 0 2 3;street 2 1 4;"
                + "house 0 2 0 0 0 1;house 0 85 0 0 0 1;house 0 85 1 0 0 1;house 0 30 1 0 0 1;house 0 2 1 0 0 1;cross 6;");
        Check.same("over both ends", walk.distance(0, 1), 14);
        Check.same("over both ends and to the other side", walk.distance(0, 2), 20);
        Check.same("directly and to the other side", walk.distance(0, 3), 34);
        Check.same("directly on the same side", walk.distance(3, 4), 28);
        Check.same("opposite houses", walk.distance(0, 4), 6);
        Check.same("the house itself", walk.distance(2, 2), 0);
        walk.setOpen(1, false);
        Check.same("directly if the other way is closed", walk.distance(0, 1), 83);
    }

    private static void severalStreets() {
        CensusWalk walk = Check.town("town 2;street 0 1 30;street 1 0 8;house 0 0 0 0 0 1;house 0 30 0 0 0 1;house 1 0 1 0 0 1;");
        Check.same("the shorter one of two streets", walk.distance(0, 1), 8);
        Check.same("houses at one crossing", walk.distance(1, 2), 0);
        Check.same("start and end are not the same", walk.distanceFrom(1, 2), 0);
        Check.same("a street can be walked from its end", walk.distanceFrom(0, 2), 8);
        walk.setOpen(1, false);
        Check.same("the other street is left", walk.distance(0, 1), 30);
    }

    private static void closedStreets() {
        CensusWalk walk = Check.town("town 3;street 0 1 5;street 1 2 5;house 0 1 0 0 0 1;house 0 4 0 0 0 1;house 1 0 0 0 0 1;");
        walk.setOpen(0, false);
        Check.same("to a closed street", walk.distanceFrom(0, 0), -1);
        Check.same("over a closed street", walk.distanceFrom(0, 2), -1);
        Check.same("from a closed street", walk.distance(0, 2), -1);
        Check.same("to a closed street from a house", walk.distance(2, 0), -1);
        Check.same("along a closed street", walk.distance(0, 1), -1);
        Check.same("a house and itself on a closed street", walk.distance(0, 0), 0);
        Check.same("on an open street", walk.distanceFrom(2, 2), 5);
        walk.setOpen(0, true);
        Check.same("open again", walk.distanceFrom(0, 2), 5);
    }

    private static void wrongIndexes() {
        CensusWalk walk = Check.town("town 3;street 0 1 5;house 0 1 0 0 0 1;house 0 4 0 0 0 1;");
        for (int bad : new int[] {-1, 2, 16, Integer.MAX_VALUE, Integer.MIN_VALUE}) {
            Check.index("distance(" + bad + ", 0)", () -> walk.distance(bad, 0));
            Check.index("distance(0, " + bad + ")", () -> walk.distance(0, bad));
            Check.index("distance(" + bad + ", " + bad + ")", () -> walk.distance(bad, bad));
            Check.index("distanceFrom(0, " + bad + ")", () -> walk.distanceFrom(0, bad));
            Check.index("streetOf(" + bad + ")", () -> walk.streetOf(bad));
            Check.index("hasDog(" + bad + ")", () -> walk.hasDog(bad));
            Check.index("isHome(" + bad + ", 0)", () -> walk.isHome(bad, 0));
            Check.index("isHome(" + bad + ", -1), the house first", () -> walk.isHome(bad, -1));
            Check.index("duration(" + bad + ", 1)", () -> walk.duration(bad, 1));
            Check.index("duration(" + bad + ", 0), the house first", () -> walk.duration(bad, 0));
            Check.index("isOpen(" + bad + ")", () -> walk.isOpen(bad));
        }
        Check.index("isOpen(1)", () -> walk.isOpen(1));
        Check.index("distanceFrom(-1, 0)", () -> walk.distanceFrom(-1, 0));
        Check.index("distanceFrom(3, 0)", () -> walk.distanceFrom(3, 0));
        Check.same("distanceFrom(2, 0)", walk.distanceFrom(2, 0), -1);
        for (int bad : new int[] {-1, 10000, Integer.MAX_VALUE, Integer.MIN_VALUE}) {
            Check.argument("isHome(0, " + bad + ")", () -> walk.isHome(0, bad));
        }
        for (int bad : new int[] {-1, 0, 3, Integer.MAX_VALUE, Integer.MIN_VALUE}) {
            Check.argument("duration(0, " + bad + ")", () -> walk.duration(0, bad));
        }
    }

    private static void simpleAnswers() {
        CensusWalk walk = Check.town("town 3;street 0 1 5;street 1 2 5;house 1 1 0 0 100 200;house 0 4 0 0 0 1440 dog;house 1 1 0 0 5 6;");
        Check.same("streetOf(0)", walk.streetOf(0), 1);
        Check.same("streetOf(1)", walk.streetOf(1), 0);
        Check.same("hasDog(0)", walk.hasDog(0), false);
        Check.same("hasDog(1)", walk.hasDog(1), true);
        Check.same("hasDog(2)", walk.hasDog(2), false);
        Check.same("isOpen(0)", walk.isOpen(0), true);
        Check.same("isHome(0, 99)", walk.isHome(0, 99), false);
        Check.same("isHome(0, 100)", walk.isHome(0, 100), true);
        Check.same("isHome(0, 199)", walk.isHome(0, 199), true);
        Check.same("isHome(0, 200)", walk.isHome(0, 200), false);
        Check.same("isHome(1, 0)", walk.isHome(1, 0), true);
        Check.same("isHome(1, 1440)", walk.isHome(1, 1440), false);
        Check.same("isHome(1, 9999)", walk.isHome(1, 9999), false);
    }

    /** The durations of the first call without a dog, of the second call, and of the first call with a dog. */
    private static void visit(String sum, int persons, int first, int second, int withDog) {
        CensusWalk walk = Check.town("town 2;visit " + sum + ";street 0 1 5;house 0 0 0 " + persons + " 0 1440;");
        Check.same("visit " + sum + ", call 1", walk.duration(0, 1), first);
        Check.same("visit " + sum + ", call 2", walk.duration(0, 2), second);
        walk.setDog(0, true);
        Check.same("visit " + sum + ", dog", walk.duration(0, 1), withDog);
    }

    private static void durations() {
        visit("persons", 13, 13, 13, 13);
        visit("call", 13, 1, 2, 1);
        visit("dog*30+1", 13, 1, 1, 31);
        visit("persons*100+dog*10+call", 2, 201, 202, 211);
        visit("0", 3, 1, 1, 1);
        visit("1-5", 3, 1, 1, 1);
        visit("9999", 3, 240, 240, 240);
        visit("241", 3, 240, 240, 240);
        visit("240", 3, 240, 240, 240);
        visit("2+3*4", 0, 14, 14, 14);
        visit("(2+3)*4", 0, 20, 20, 20);
        visit("20-5-3", 0, 12, 12, 12);
        visit("20-(5-3)", 0, 18, 18, 18);
        visit("100/7/2", 0, 7, 7, 7);
        visit("100/(7/2)", 0, 33, 33, 33);
        visit("7*3/2", 0, 10, 10, 10);
        visit("7/2*3", 0, 9, 9, 9);
        visit("(0-7)/2+10", 0, 7, 7, 7);
        visit("7/(0-2)+10", 0, 7, 7, 7);
        visit("5/0+4", 0, 4, 4, 4);
        visit("50/persons+4", 0, 4, 4, 4);
        visit("60/dog+call", 0, 1, 2, 61);
        visit("9999*9999/5000", 0, 200, 200, 200);
        visit("9999*9999*9999*9999/5000", 0, 200, 200, 200);
        visit("(0-9999*9999)/5000+220", 0, 20, 20, 20);
        visit("(9999*9999+9999)/5000", 0, 200, 200, 200);
        visit("(0-9999*9999-9999)/5000+250", 0, 50, 50, 50);
        visit("9999*9999-9999*100+5*20", 0, 200, 200, 200);
        visit("9999*9999*9999-9999*100+5*20", 0, 200, 200, 200);
        visit("1+(1+1*(1+1*(1+1*(1+1*2))))", 0, 7, 7, 7);
    }
}
