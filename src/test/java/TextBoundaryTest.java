/** The boundary cases that the document names for the setup text and its errors. */
public final class TextBoundaryTest {
    private static final int SYNTAX = CensusWalk.SYNTAX_ERROR;
    private static final int RANGE = CensusWalk.OUT_OF_RANGE;
    private static final int MANY = CensusWalk.TOO_MANY;
    private static final int DEEP = CensusWalk.TOO_DEEP;
    private static final String STREET = "town 2;street 0 1 9;";
    private static final String STREETS_12 = "town 2;" + "street 0 1 9;".repeat(12);
    private static final String HOUSES_16 = STREET + "house 0 1 0 0 0 1;".repeat(16);
    private static final String WALKERS_3 = "town 2;" + "walker 0 0;".repeat(3);

    public static void main(String[] args) throws IllegalAccessException {
        Boundaries.run(TextBoundaryTest.class);
    }

    @Says(in = "Description", value = "The setup text is read from an input buffer of at most 900 bytes.")
    static void nineHundredBytes() {
        String start = STREET + "house 0 1 0 3 0 1;visit 1";
        String text = start + "+1".repeat((899 - start.length()) / 2) + ";";
        Check.same("the text has 900 bytes", text.length(), 900);
        CensusWalk walk = new CensusWalk();
        Check.same("load of 900 bytes", Check.load(walk, text), 1);
        Check.same("duration", walk.duration(0, 1), 240);
        Check.same("load of 900 bytes again", Check.load(walk, text.replace('+', '-')), 1);
        Check.same("duration", walk.duration(0, 1), 1);
        Check.wrong(text.substring(0, 899) + "^)", SYNTAX);
        Check.wrong("town 2;" + " ".repeat(892) + "^x", SYNTAX);
        Check.wrong(" ".repeat(900) + "^", SYNTAX);
        Check.right("town " + "0".repeat(893) + "2;", 0);
    }

    @Says(in = "Description", value = "setup = \"town\" number \";\" { statement \";\" }")
    static void setup() {
        Check.right("town 2;", 0);
        Check.right("town 2;gap 1;", 0);
        Check.right("town 2;gap 1;cross 1;", 0);
        Check.wrong("^2;", SYNTAX);
        Check.wrong("^;", SYNTAX);
        Check.wrong("^street 0 1 9;", SYNTAX);
        Check.wrong("town^;", SYNTAX);
        Check.wrong("town 2 ^gap 1;", SYNTAX);
        Check.wrong("town 2;^;", SYNTAX);
        Check.wrong("town 2;gap 1;^;", SYNTAX);
        Check.wrong("town 2;gap 1 ^cross 1;", SYNTAX);
        Check.wrong("town 2;^town 2;", SYNTAX);
        Check.wrong("town 2;^2;", SYNTAX);
    }

    @Says(in = "Description", value = "statement = \"street\" number number number | \"house\" number number number number number number [ \"dog\" ]")
    static void numbersOfStreetsAndHouses() {
        Check.right(STREET, 0);
        Check.wrong("town 2;street^;", SYNTAX);
        Check.wrong("town 2;street 0^;", SYNTAX);
        Check.wrong("town 2;street 0 1^;", SYNTAX);
        Check.wrong("town 2;street 0 1 9 ^9;", SYNTAX);
        Check.wrong("town 2;street 0 1 9 ^dog;", SYNTAX);
        String[] numbers = {" 0", " 1", " 0", " 5", " 10", " 20"};
        StringBuilder house = new StringBuilder(STREET + "house");
        for (String number : numbers) {
            Check.wrong(house + "^;", SYNTAX);
            Check.wrong(house + " ^dog;", SYNTAX);
            house.append(number);
        }
        Check.right(house + ";", 1);
        Check.right(house + " dog;", 1);
        Check.wrong(house + " ^0;", SYNTAX);
        Check.wrong(house + " dog ^dog;", SYNTAX);
        Check.wrong(house + " dog ^1;", SYNTAX);
        Check.wrong(house + " ^cat;", SYNTAX);
    }

    @Says(in = "Description", value = "| \"walker\" number number | \"cross\" number | \"gap\" number | \"visit\" sum")
    static void numbersOfTheOtherStatements() {
        Check.right("town 2;walker 0 0;cross 0;gap 0;visit 0;", 0);
        Check.wrong("town 2;walker^;", SYNTAX);
        Check.wrong("town 2;walker 0^;", SYNTAX);
        Check.wrong("town 2;walker 0 0 ^0;", SYNTAX);
        Check.wrong("town 2;cross^;", SYNTAX);
        Check.wrong("town 2;cross 0 ^0;", SYNTAX);
        Check.wrong("town 2;gap^;", SYNTAX);
        Check.wrong("town 2;gap 0 ^0;", SYNTAX);
        Check.wrong("town 2;visit^;", SYNTAX);
        Check.wrong("town 2;visit 0 ^0;", SYNTAX);
        Check.wrong("town 2;gap ^persons;", SYNTAX);
        Check.wrong("town 2;gap 1^+1;", SYNTAX);
    }

    @Says(in = "Description", value = "sum = term { ( \"+\" | \"-\" ) term }")
    static void sums() {
        Check.right("town 2;visit 1;", 0);
        Check.right("town 2;visit 1+2-3;", 0);
        Check.wrong("town 2;visit ^+1;", SYNTAX);
        Check.wrong("town 2;visit ^-1;", SYNTAX);
        Check.wrong("town 2;visit 1+^;", SYNTAX);
        Check.wrong("town 2;visit 1-^;", SYNTAX);
        Check.wrong("town 2;visit 1+^-1;", SYNTAX);
        Check.wrong("town 2;visit 1-^+1;", SYNTAX);
        Check.wrong("town 2;visit (1+^);", SYNTAX);
    }

    @Says(in = "Description", value = "term = factor { ( \"*\" | \"/\" ) factor }")
    static void terms() {
        Check.right("town 2;visit 1*2/3;", 0);
        Check.wrong("town 2;visit ^*1;", SYNTAX);
        Check.wrong("town 2;visit ^/1;", SYNTAX);
        Check.wrong("town 2;visit 1*^;", SYNTAX);
        Check.wrong("town 2;visit 1/^;", SYNTAX);
        Check.wrong("town 2;visit 1*^/1;", SYNTAX);
        Check.wrong("town 2;visit 1/^*1;", SYNTAX);
        Check.wrong("town 2;visit 1+^*1;", SYNTAX);
        Check.wrong("town 2;visit 1*^-1;", SYNTAX);
    }

    @Says(in = "Description", value = "factor = number | \"persons\" | \"dog\" | \"call\" | \"(\" sum \")\"")
    static void factors() {
        Check.right("town 2;visit persons;", 0);
        Check.right("town 2;visit dog;", 0);
        Check.right("town 2;visit call;", 0);
        Check.right("town 2;visit (1);", 0);
        Check.wrong("town 2;visit (^);", SYNTAX);
        Check.wrong("town 2;visit (1^;", SYNTAX);
        Check.wrong("town 2;visit ((1)^;", SYNTAX);
        Check.wrong("town 2;visit 1^);", SYNTAX);
        Check.wrong("town 2;visit (1)^);", SYNTAX);
        Check.wrong("town 2;visit ^);", SYNTAX);
        Check.wrong("town 2;visit (1)^(1);", SYNTAX);
        Check.wrong("town 2;visit 2^(1);", SYNTAX);
        Check.wrong("town 2;visit ^gap;", SYNTAX);
        Check.wrong("town 2;visit (1 ^2);", SYNTAX);
    }

    @Says(in = "Description", value = "A number is a run of decimal digits; a word is a run of the letters a to z.")
    static void signsBesideDigitsAndLetters() {
        for (char digit = '0'; digit <= '9'; digit++) {
            CensusWalk walk = Check.town(STREET + "house 0 0 0 0 0 1;visit 10" + digit + ";");
            Check.same("the digit " + digit, walk.duration(0, 1), 100 + digit - '0');
        }
        for (char sign : new char[] {'/', ':', '`', '{', 'A', 'Z', '@', '[', '.', '_'}) {
            Check.wrong("town ^" + sign + ";", SYNTAX);
            Check.wrong("town 2^" + sign + ";", SYNTAX);
            Check.wrong("^" + sign + "town 2;", SYNTAX);
            Check.wrong("town^" + sign + " 2;", SYNTAX);
        }
        Check.wrong("^azaz;", SYNTAX);
        Check.wrong("town 2;^a;", SYNTAX);
        Check.wrong("town 2;^z;", SYNTAX);
        Check.right("town 000000000000000000000000000000000000000000000000010;", 0);
        Check.wrong("town ^4294967297;", RANGE);
        Check.wrong("town ^18446744073709551617;", RANGE);
        Check.wrong("town 2;gap ^" + "9".repeat(800) + ";", RANGE);
    }

    @Says(in = "Description", value = "Each run is as long as possible.")
    static void longestRuns() {
        Check.wrong("town 1 ^0;", SYNTAX);
        Check.right("town 10;", 0);
        Check.wrong("^towns 2;", SYNTAX);
        Check.wrong("^towntown 2;", SYNTAX);
        Check.wrong("town 2;^gapp 2;", SYNTAX);
        Check.wrong("town 2;^ga 2;", SYNTAX);
        Check.wrong("town 2;^streethouse 0 1 9;", SYNTAX);
        Check.wrong("town 2;street 01 0^;", SYNTAX);
        Check.wrong(STREET + "house 0 0 0 0 0 1 ^dogs;", SYNTAX);
        Check.wrong(STREET + "house 0 0 0 0 0 1 ^do;", SYNTAX);
        Check.wrong("town 2;visit ^personsdog;", SYNTAX);
        Check.wrong("town 2;visit ^person;", SYNTAX);
        Check.wrong("town 2;visit ^calls;", SYNTAX);
        Check.wrong("town 2;visit 2^persons;", SYNTAX);
        Check.right("town2;gap60;walker1 5;", 0);
    }

    @Says(in = "Description", value = "Spaces (byte 32) may precede any token and may follow the last one.")
    static void spaces() {
        String tight = "town2;street0 1 9;house0 0 0 0 0 1dog;walker0 5;cross1;gap5;visit(persons+dog)*call/2-1;";
        Check.right(tight, 1);
        String wide = "   " + tight.replaceAll("([a-z]+|[0-9]+|[^a-z0-9 ])", "$1   ");
        Check.right(wide, 1);
        Check.right(wide + " ".repeat(500), 1);
        Check.right(wide.trim(), 1);
        Check.right(" " + tight + " ", 1);
    }

    @Says(in = "Description", value = "No other byte separates tokens.")
    static void otherBytes() {
        for (int code = 0; code < 256; code++) {
            char sign = (char) code;
            boolean digit = sign >= '0' && sign <= '9';
            boolean letter = sign >= 'a' && sign <= 'z';
            if (sign == ' ' || digit) {
                continue;
            }
            Check.wrong("^" + sign + "town 2;", SYNTAX);
            Check.wrong(letter ? "^town" + sign + "2;" : "town^" + sign + "2;", SYNTAX);
            Check.wrong("town 2;street 0^" + sign + "1 9;", SYNTAX);
            Check.wrong(sign == ';' ? "town 2;^;" : "town 2^" + sign + ";", SYNTAX);
            Check.wrong("town 2;^" + sign, SYNTAX);
        }
    }

    @Says(in = "Description", value = "cross sets the crossing time (0 to 9)")
    static void crossingTimes() {
        String opposite = STREET + "house 0 0 0 0 0 1;house 0 0 1 0 0 1;cross ";
        Check.same("cross 0", Check.town(opposite + "0;").distance(0, 1), 0);
        Check.same("cross 1", Check.town(opposite + "1;").distance(0, 1), 1);
        Check.same("cross 9", Check.town(opposite + "9;").distance(0, 1), 9);
        Check.wrong("town 2;cross ^10;", RANGE);
    }

    /** Two walkers call where nobody is at home; the second comes just when the gap is over, or a minute before. */
    @Says(in = "Description", value = "gap sets the gap (0 to 600).")
    static void gaps() {
        Check.same("gap 0, at once", secondCall("gap 0;", 100), CensusWalk.UNANSWERED);
        Check.same("gap 1, at once", secondCall("gap 1;", 100), CensusWalk.REFUSED);
        Check.same("gap 600, after 599", secondCall("gap 600;", 699), CensusWalk.REFUSED);
        Check.same("gap 600, after 600", secondCall("gap 600;", 700), CensusWalk.UNANSWERED);
        Check.wrong("town 2;gap ^601;", RANGE);
    }

    private static int secondCall(String gap, int time) {
        CensusWalk walk = Check.town(STREET + "house 0 0 0 0 0 1;walker 0 100;walker 0 " + time + ";" + gap);
        walk.plan(0, 0);
        walk.plan(1, 0);
        return walk.result(1, 0);
    }

    @Says(in = "Description", value = "Without these statements the crossing time is 0 and the gap is 60.")
    static void withoutCrossAndGap() {
        CensusWalk walk = Check.town(STREET + "house 0 0 0 0 0 1;house 0 0 1 0 0 1;");
        Check.same("no crossing time", walk.distance(0, 1), 0);
        Check.same("after 59", secondCall("", 159), CensusWalk.REFUSED);
        Check.same("after 60", secondCall("", 160), CensusWalk.UNANSWERED);
        afterOtherTexts("cross 9;gap 600;");
        afterOtherTexts("cross 9;gap 600;x");
        afterOtherTexts("cross 10;");
        afterOtherTexts("gap 601;");
    }

    /** What a text before has set, a right one or a wrong one, is not left for the next. */
    private static void afterOtherTexts(String settings) {
        CensusWalk walk = new CensusWalk();
        Check.load(walk, "town 2;" + settings);
        Check.load(walk, STREET + "house 0 0 0 0 0 1;house 0 0 1 0 0 1;walker 0 100;walker 0 159;walker 0 160;");
        Check.same("crossing time after " + settings, walk.distance(0, 1), 0);
        walk.plan(0, 0);
        walk.plan(1, 0);
        walk.plan(2, 0);
        Check.same("after 59, after " + settings, walk.result(1, 0), CensusWalk.REFUSED);
        Check.same("after 60, after " + settings, walk.result(2, 0), CensusWalk.UNANSWERED);
    }

    @Says(in = "Description", value = "A number as a factor is 0 to 9999.")
    static void numbersAsFactors() {
        Check.right("town 2;visit 0;", 0);
        Check.right("town 2;visit 9999;", 0);
        Check.right("town 2;visit 0009999;", 0);
        Check.wrong("town 2;visit ^10000;", RANGE);
        Check.wrong("town 2;visit 1+^10000;", RANGE);
        Check.wrong("town 2;visit 1*^10000;", RANGE);
        Check.wrong("town 2;visit (^10000);", RANGE);
        CensusWalk walk = Check.town(STREET + "house 0 0 0 20 0 1 dog;visit 9999-9989;");
        Check.same("9999-9989", walk.duration(0, 1), 10);
        for (int number = 0; number <= 3; number++) {
            Check.load(walk, STREET + "house 0 0 0 20 0 1 dog;visit 50+" + number + ";");
            Check.same("50+" + number, walk.duration(0, 2), 50 + number);
        }
    }

    @Says(in = "Description", value = "Parentheses nest at most 4 deep.")
    static void fourDeep() {
        Check.right("town 2;visit ((((1))));", 0);
        Check.wrong("town 2;visit ((((^(1)))));", DEEP);
        Check.right("town 2;visit ((((1))))+((((1))))*((((1))));", 0);
        Check.right("town 2;visit (1)+(1)+(1)+(1)+(1)+(1);", 0);
        Check.right("town 2;visit (((( 1 )+(1))+(1))+(1));", 0);
        Check.wrong("town 2;visit ((((1+^(1)))));", DEEP);
        CensusWalk walk = Check.town(STREET + "house 0 0 0 3 0 1;visit 1+2*(1+2*(1+2*(1+2*(1+2*persons))));");
        Check.same("the value of the deepest", walk.duration(0, 1), 127);
    }

    @Says(in = "Description", value = "A street that is mentioned must have been declared earlier in the text.")
    static void streetsDeclaredLater() {
        Check.wrong("town 2;house ^0 0 0 0 0 1;street 0 1 9;", RANGE);
        Check.wrong(STREET + "house ^1 0 0 0 0 1;street 0 1 9;", RANGE);
        Check.right(STREET + "street 0 1 9;house 1 0 0 0 0 1;", 1);
        Check.right(STREET + "house 0 0 0 0 0 1;street 0 1 9;house 1 0 0 0 0 1;", 2);
        Check.right(STREETS_12 + "house 11 0 0 0 0 1;", 1);
        Check.wrong(STREETS_12 + "house ^12 0 0 0 0 1;", RANGE);
        CensusWalk walk = Check.town(STREETS_12 + "house 11 0 0 0 0 1;");
        Check.same("a town before had the street", Check.load(walk, STREET + "house 1 0 0 0 0 1;"), RANGE);
    }

    @Says(in = "Description", value = "There are at most 12 streets and 16 houses.")
    static void numberOfStreetsAndHouses() {
        Check.same("no street", Check.town("town 2;").streetCount(), 0);
        Check.same("12 streets", Check.town(STREETS_12).streetCount(), 12);
        Check.wrong(STREETS_12 + "^street 0 1 9;", MANY);
        Check.same("no house", Check.town(STREET).houseCount(), 0);
        Check.same("16 houses", Check.town(HOUSES_16).houseCount(), 16);
        Check.wrong(HOUSES_16 + "^house 0 1 0 0 0 1;", MANY);
        CensusWalk both = Check.town(STREETS_12 + "house 11 1 0 0 0 1;".repeat(16) + WALKERS_3.substring(7));
        Check.same("12 streets with 16 houses", both.streetCount() * 100 + both.houseCount(), 1216);
    }

    @Says(in = "Description", value = "The statements cross, gap and visit may each occur once.")
    static void settingsOnce() {
        String[] settings = {"cross 1;", "gap 1;", "visit 1;"};
        for (String one : settings) {
            for (String other : settings) {
                String pair = "town 2;" + one + "walker 0 0;";
                if (one.equals(other)) {
                    Check.wrong(pair + "^" + other, SYNTAX);
                } else {
                    Check.right(pair + other, 0);
                }
            }
        }
        CensusWalk walk = Check.town("town 2;cross 1;gap 1;visit 1;");
        Check.same("once in the next text too", Check.load(walk, "town 2;visit 1;gap 1;cross 1;"), 0);
    }

    @Says(in = "Description", value = "The first error in the text is the one with the smallest offset.")
    static void smallestOffset() {
        String[] marked = {"gap^;", "gap ^601;", "^walker 0 0;", "visit ((((^(1)))));"};
        int[] codes = {SYNTAX, RANGE, MANY, DEEP};
        for (int first = 0; first < marked.length; first++) {
            for (String second : marked) {
                Check.wrong(WALKERS_3 + marked[first] + second.replace("^", ""), codes[first]);
            }
        }
        Check.wrong("town ^11;street 0 0 0", RANGE);
        Check.wrong("town 2;street ^2 2 100;", RANGE);
        Check.wrong("town 2;street 0 ^0 100;", RANGE);
        Check.wrong("town 2;street 0 1 ^100", RANGE);
        Check.wrong("town 2;street 0 1 ^x 100", SYNTAX);
        Check.wrong("town 2;visit ((((^(10000(x", DEEP);
        Check.wrong(WALKERS_3 + "^walker 2 1441", MANY);
    }

    @Says(in = "Description", value = "If several kinds of error have the same offset, the first one in this list counts:")
    static void sameOffset() {
        Check.wrong("town 2;visit ((((1^(1))));", SYNTAX);
        Check.wrong("town 2;visit ((((persons ^((x", SYNTAX);
        Check.wrong("town 2 ^99999;", SYNTAX);
        Check.wrong(STREETS_12.substring(0, STREETS_12.length() - 1) + " ^street 0 1 9;", SYNTAX);
        Check.wrong(HOUSES_16.substring(0, HOUSES_16.length() - 1) + " ^house 0 1 0 0 0 1;", SYNTAX);
        Check.wrong(WALKERS_3.substring(0, WALKERS_3.length() - 1) + " ^walker 0 0;", SYNTAX);
        Check.wrong("town 2;gap 1;^gap 601;", SYNTAX);
    }

    @Says(in = "Description", value = "SYNTAX_ERROR: a token or byte that the grammar does not allow here, at its first byte")
    static void wrongTokens() {
        Check.wrong("   ^twon 2;", SYNTAX);
        Check.wrong("^zown 2;", SYNTAX);
        Check.wrong("^towm 2;", SYNTAX);
        Check.wrong("town 2;^xap 1;", SYNTAX);
        Check.wrong("town   ^two;", SYNTAX);
        Check.wrong("town ^-1;", SYNTAX);
        Check.wrong("town 2;   ^1000 2;", SYNTAX);
        Check.wrong("town 2;gap 1   ^12345;", SYNTAX);
        Check.wrong("town 2;   ^(", SYNTAX);
        Check.wrong("town 2;walker   ^dog 0;", SYNTAX);
        Check.wrong("town 2;visit 1+   ^street;", SYNTAX);
        Check.wrong("town 2;^\u00ff", SYNTAX);
        Check.wrong("town 2;^\u0080", SYNTAX);
        Check.wrong("town 2^\u0000;", SYNTAX);
    }

    @Says(in = "Description", value = "the end of the text, at its length, if the text ends too early")
    static void textThatEndsTooEarly() {
        String[] tokens = ("town 2 ; street 0 1 9 ; house 0 1 0 3 0 1440 ; house 0 1 0 3 0 1440 dog ; walker 0 0 ; cross 1 ; gap 1 ;"
                + " visit ( persons + 2 ) * call / ( 3 - dog ) ;").split(" ");
        Check.wrong("^", SYNTAX);
        Check.wrong("  ^", SYNTAX);
        StringBuilder text = new StringBuilder();
        for (String token : tokens) {
            text.append(token);
            if (token.equals(";")) {
                Check.right(text.toString(), text.toString().split("house").length - 1);
            } else {
                Check.wrong(text + "^", SYNTAX);
                Check.wrong(text + "  ^", SYNTAX);
            }
            text.append(' ');
        }
    }

    @Says(in = "Description", value = "a second cross, gap or visit, at its first letter.")
    static void secondSettings() {
        Check.wrong("town 2;cross 1;   ^cross 1;", SYNTAX);
        Check.wrong("town 2;gap 1;   ^gap 1;", SYNTAX);
        Check.wrong("town 2;visit 1;   ^visit 1;", SYNTAX);
        Check.wrong("town 2;cross 0;gap 0;visit 0;^cross", SYNTAX);
        Check.wrong("town 2;cross 0;gap 0;visit 0;^gap", SYNTAX);
        Check.wrong("town 2;cross 0;gap 0;visit 0;^visit", SYNTAX);
    }

    @Says(in = "Description", value = "OUT_OF_RANGE: a number outside its range, at its first digit")
    static void numbersOutsideTheirRange() {
        Check.wrong("town   ^000;", RANGE);
        Check.wrong("town ^0011;", RANGE);
        Check.wrong("town 2;street   ^2 0 1;", RANGE);
        Check.wrong("town 2;street 0 ^002 1;", RANGE);
        Check.wrong("town 2;street 0 1 ^00;", RANGE);
        Check.wrong("town 2;street 0 1 ^100;", RANGE);
        Check.wrong(STREET + "house 0 ^10 0 0 0 1;", RANGE);
        Check.wrong(STREET + "house 0 0 ^2 0 0 1;", RANGE);
        Check.wrong(STREET + "house 0 0 0 ^21 0 1;", RANGE);
        Check.wrong(STREET + "house 0 0 0 0 ^1440 1440;", RANGE);
        Check.wrong(STREET + "house 0 0 0 0 0 ^1441;", RANGE);
        Check.wrong("town 2;walker ^2 0;", RANGE);
        Check.wrong("town 2;walker 0 ^1441;", RANGE);
        Check.wrong("town 2;cross ^10;", RANGE);
        Check.wrong("town 2;gap ^601;", RANGE);
        Check.wrong("town 2;visit ^10000;", RANGE);
    }

    @Says(in = "Description", value = "the end of a street if it is equal to the start")
    static void endEqualToTheStart() {
        for (int crossing = 0; crossing < 10; crossing++) {
            Check.wrong("town 10;street " + crossing + " ^" + crossing + " 5;", RANGE);
            Check.right("town 10;street " + crossing + " " + (crossing + 1) % 10 + " 5;", 0);
        }
        Check.wrong("town 10;street 1   ^001 5;", RANGE);
        Check.wrong("town 10;street 001 ^1", RANGE);
    }

    @Says(in = "Description", value = "the time to of a house if it is not greater than from")
    static void timeToNotGreater() {
        Check.wrong(STREET + "house 0 0 0 0 0 ^0;", RANGE);
        Check.wrong(STREET + "house 0 0 0 0 500 ^500;", RANGE);
        Check.wrong(STREET + "house 0 0 0 0 500 ^0500;", RANGE);
        Check.wrong(STREET + "house 0 0 0 0 500 ^499;", RANGE);
        Check.wrong(STREET + "house 0 0 0 0 1439   ^1439 dog;", RANGE);
        Check.right(STREET + "house 0 0 0 0 500 501;", 1);
    }

    @Says(in = "Description", value = "an index of a street that was not declared earlier, at its first digit.")
    static void streetsNotDeclared() {
        Check.wrong("town 2;house   ^0 0 0 0 0 1;", RANGE);
        Check.wrong(STREET + "house ^001 0 0 0 0 1;", RANGE);
        Check.wrong(STREET + "house ^12 0 0 0 0 1;", RANGE);
        Check.wrong(STREET + "house ^4294967296 0 0 0 0 1;", RANGE);
        Check.right(STREET + "house 000 0 0 0 0 1;", 1);
    }

    @Says(in = "Description", value = "TOO_MANY: a street, house or walker beyond the maximum number, at the first letter of its statement.")
    static void beyondTheMaximum() {
        Check.wrong(STREETS_12 + "   ^street 0 1 9;", MANY);
        Check.wrong(STREETS_12 + "^street", MANY);
        Check.wrong(STREETS_12 + "^street 0 0 0", MANY);
        Check.wrong(HOUSES_16 + "   ^house 0 1 0 0 0 1;", MANY);
        Check.wrong(HOUSES_16 + "^house", MANY);
        Check.wrong(HOUSES_16 + "^house 99", MANY);
        Check.wrong(WALKERS_3 + "   ^walker 0 0;", MANY);
        Check.wrong(WALKERS_3 + "^walker", MANY);
        Check.wrong(WALKERS_3 + "^walker 99", MANY);
        Check.right(STREETS_12 + "walker 0 0;house 0 0 0 0 0 1;", 1);
        Check.right(HOUSES_16 + "walker 0 0;street 0 1 9;", 16);
        Check.right(WALKERS_3 + "street 0 1 9;house 0 0 0 0 0 1;", 1);
    }

    @Says(in = "Description", value = "TOO_DEEP: an opening parenthesis inside 4 others, at that parenthesis.")
    static void insideFourOthers() {
        Check.wrong("town 2;visit ((((^(", DEEP);
        Check.wrong("town 2;visit ( ( ( (   ^(1)))));", DEEP);
        Check.wrong("town 2;visit (1)*(((1+(2-^(3)))));", DEEP);
        Check.wrong("town 2;visit ((((1))))+((((^(", DEEP);
        Check.right("town 2;visit ((((1)*(2)))-((3)));", 0);
        Check.wrong("town 2;visit ((((^", SYNTAX);
    }
}
