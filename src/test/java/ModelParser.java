import java.math.BigInteger;
import java.util.ArrayList;
import java.util.HashSet;
import java.util.List;
import java.util.Set;
import java.util.regex.Matcher;
import java.util.regex.Pattern;

/** The model's reading of a setup text: all tokens are cut first, then the grammar goes over their list. */
final class ModelParser {
    private static final Pattern TOKEN = Pattern.compile(" *([0-9]+|[a-z]+|[^ ])", Pattern.DOTALL);

    private final List<String> tokens = new ArrayList<>();
    private final List<Integer> offsets = new ArrayList<>();
    private final Set<String> once = new HashSet<>();
    private int at = 0;

    ModelParser(String text) {
        Matcher matcher = TOKEN.matcher(text);
        for (int from = 0; matcher.find(from) && matcher.start() == from; from = matcher.end()) {
            tokens.add(matcher.group(1));
            offsets.add(matcher.start(1));
        }
        tokens.add("");
        offsets.add(text.length());
    }

    Model.State setup() throws Model.Fault {
        Model.State state = new Model.State();
        take("town");
        state.crossings = number(1, 10);
        take(";");
        while (!tokens.get(at).isEmpty()) {
            statement(state);
            take(";");
        }
        return state;
    }

    private void statement(Model.State state) throws Model.Fault {
        String word = tokens.get(at);
        switch (word) {
            case "street":
                limit(state.streets.size(), 12);
                state.streets.add(street(state));
                break;
            case "house":
                limit(state.houses.size(), 16);
                state.houses.add(house(state));
                break;
            case "walker":
                limit(state.walkers.size(), 3);
                Model.Walker walker = new Model.Walker();
                walker.crossing = number(0, state.crossings - 1);
                walker.time = number(0, 1440);
                state.walkers.add(walker);
                break;
            case "cross":
                onlyOnce();
                state.cross = number(0, 9);
                break;
            case "gap":
                onlyOnce();
                state.gap = number(0, 600);
                break;
            case "visit":
                onlyOnce();
                state.visit = sum(0);
                break;
            default:
                throw fault(CensusWalk.SYNTAX_ERROR);
        }
    }

    private Model.Street street(Model.State state) throws Model.Fault {
        Model.Street street = new Model.Street();
        street.start = number(0, state.crossings - 1);
        int endToken = at;
        street.end = number(0, state.crossings - 1);
        if (street.end == street.start) {
            throw new Model.Fault(CensusWalk.OUT_OF_RANGE, offsets.get(endToken));
        }
        street.length = number(1, 99);
        return street;
    }

    private Model.House house(Model.State state) throws Model.Fault {
        Model.House house = new Model.House();
        house.street = number(0, state.streets.size() - 1);
        house.offset = number(0, state.streets.get(house.street).length);
        house.side = number(0, 1);
        house.persons = number(0, 20);
        house.from = number(0, 1439);
        house.to = number(house.from + 1, 1440);
        if (tokens.get(at).equals("dog")) {
            house.dog = true;
            at++;
        }
        return house;
    }

    private Model.Expression sum(int depth) throws Model.Fault {
        Model.Expression left = term(depth);
        while (tokens.get(at).equals("+") || tokens.get(at).equals("-")) {
            left = joined(tokens.get(at++).charAt(0), left, term(depth));
        }
        return left;
    }

    private Model.Expression term(int depth) throws Model.Fault {
        Model.Expression left = factor(depth);
        while (tokens.get(at).equals("*") || tokens.get(at).equals("/")) {
            left = joined(tokens.get(at++).charAt(0), left, factor(depth));
        }
        return left;
    }

    private Model.Expression factor(int depth) throws Model.Fault {
        switch (tokens.get(at)) {
            case "persons":
                at++;
                return (persons, dog, call) -> persons;
            case "dog":
                at++;
                return (persons, dog, call) -> dog;
            case "call":
                at++;
                return (persons, dog, call) -> call;
            case "(":
                if (depth == 4) {
                    throw fault(CensusWalk.TOO_DEEP);
                }
                at++;
                Model.Expression inside = sum(depth + 1);
                take(")");
                return inside;
            default:
                int number = number(0, 9999);
                return (persons, dog, call) -> number;
        }
    }

    private static Model.Expression joined(char sign, Model.Expression left, Model.Expression right) {
        return (persons, dog, call) -> {
            long a = left.value(persons, dog, call);
            long b = right.value(persons, dog, call);
            long value = sign == '+' ? a + b : sign == '-' ? a - b : sign == '*' ? a * b : b == 0 ? 0 : a / b;
            return value > 1000000 ? 1000000 : value < -1000000 ? -1000000 : value;
        };
    }

    private void limit(int count, int most) throws Model.Fault {
        if (count == most) {
            throw fault(CensusWalk.TOO_MANY);
        }
        at++;
    }

    private void onlyOnce() throws Model.Fault {
        if (!once.add(tokens.get(at))) {
            throw fault(CensusWalk.SYNTAX_ERROR);
        }
        at++;
    }

    private void take(String token) throws Model.Fault {
        if (!tokens.get(at).equals(token)) {
            throw fault(CensusWalk.SYNTAX_ERROR);
        }
        at++;
    }

    private int number(int least, int greatest) throws Model.Fault {
        String token = tokens.get(at);
        if (token.isEmpty() || token.charAt(0) < '0' || token.charAt(0) > '9') {
            throw fault(CensusWalk.SYNTAX_ERROR);
        }
        BigInteger value = new BigInteger(token);
        if (value.compareTo(BigInteger.valueOf(least)) < 0 || value.compareTo(BigInteger.valueOf(greatest)) > 0) {
            throw fault(CensusWalk.OUT_OF_RANGE);
        }
        at++;
        return value.intValue();
    }

    private Model.Fault fault(int code) {
        return new Model.Fault(code, offsets.get(at));
    }
}
