import java.lang.reflect.Method;
import java.util.ArrayList;
import java.util.List;

/**
 * Every sentence of the document's description and promises has a test that names it, or stands in the list below as
 * one that names no boundary case: so a sentence can be neither forgotten nor changed unseen.
 */
public final class SentencesTest {
    private static final Class<?>[] TESTS = {TownBoundaryTest.class, WalkBoundaryTest.class, TextBoundaryTest.class,
        CallBoundaryTest.class, SearchBoundaryTest.class, ChangeBoundaryTest.class};

    /** What tells a name, an order of numbers or an ordinary answer; the other tests of the project are about these. */
    private static final String[] NO_BOUNDARY = {
        "Conventions:",
        "All numbers are integers.",
        "Division rounds down; all dividends are 0 or more except in the visit expression.",
        "Lengths and offsets are in minutes of walking.",
        "The town:",
        "Walkers and plans:",
        "The plans are simulated in steps.",
        "Duration:",
        "Setup text:",
        "Its grammar is:",
        "The number of town is the number of crossings.",
        "Changes:",
        "The constants:",
        "`SYNTAX_ERROR = -2`: Error code of load: the text does not follow the grammar.",
        "`OUT_OF_RANGE = -3`: Error code of load: a number is not allowed.",
        "`TOO_MANY = -4`: Error code of load: too many declarations.",
        "`TOO_DEEP = -5`: Error code of load: parentheses are nested too deeply.",
        "`ANSWERED = 0`: Result of a planned house: the call was answered.",
        "`UNANSWERED = 1`: Result of a planned house: nobody was at home.",
        "`DONE = 2`: Result of a planned house: the house had been counted already.",
        "`REFUSED = 3`: Result of a planned house: the call did not take place.",
        "`UNREACHABLE = 4`: Result of a planned house: there is no way to the house.",
        "The constructor and the methods follow, a promise each: the signature, then what it does.",
        "`length`: the number of bytes to read",
        "`one`: index of a house",
        "`other`: index of a house",
        "`house`: index of a house",
        "`crossing`: index of a crossing",
        "`street`: index of a street",
        "`walker`: index of a walker",
        "`dog`: whether it has one",
        "`open`: whether it is to be open",
        "Returns the street of the house.",
        "Returns whether the street is open.",
        "Returns whether the house has a dog.",
        "Returns whether somebody is at home at this time.",
        "Returns the duration of a visit at the house in this call.",
        "Returns the house at this index.",
        "Returns the result of this planned house in the simulation: ANSWERED, UNANSWERED, DONE, REFUSED or UNREACHABLE.",
        "Returns the arrival at this planned house in the simulation.",
        "Returns the finish of the walker.",
        "Finds the earliest time at which a walker alone could finish a set of houses.",
        "Appends a house to the plan of a walker.",
        "Returns the removed house.",
        "Sets the hours of a house.",
        "Determines whether a house has a dog.",
        "Opens or closes a street.",
        "Computes a checksum.",
        "Returns the checksum.",
    };

    public static void main(String[] args) {
        Document document = new Document();
        List<Says> named = named();
        List<String> ordinary = List.of(NO_BOUNDARY);
        for (String section : document.sections()) {
            if (section.equals("Description") || section.startsWith("Promise ")) {
                for (String sentence : document.sentences(section)) {
                    boolean known = isSignature(sentence) || ordinary.contains(sentence) || isNamed(named, section, sentence);
                    Check.same(section + ", \"" + sentence + "\" has its test", known, true);
                }
            }
        }
        Check.end();
    }

    private static List<Says> named() {
        List<Says> named = new ArrayList<>();
        for (Class<?> tests : TESTS) {
            for (Method test : Boundaries.testsOf(tests)) {
                named.add(test.getAnnotation(Says.class));
            }
        }
        return named;
    }

    /** FaceTest has these. */
    private static boolean isSignature(String sentence) {
        return sentence.startsWith("`") && sentence.endsWith("`");
    }

    private static boolean isNamed(List<Says> named, String section, String sentence) {
        return named.stream().anyMatch(says -> says.in().equals(section)
                && (sentence.contains(says.value()) || says.value().contains(sentence)));
    }
}
