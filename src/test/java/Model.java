import java.util.ArrayList;
import java.util.Arrays;
import java.util.HashSet;
import java.util.LinkedHashMap;
import java.util.LinkedHashSet;
import java.util.List;
import java.util.Map;
import java.util.Set;
import java.util.function.IntSupplier;
import java.util.regex.Matcher;
import java.util.regex.Pattern;

/**
 * A second program of the document, written apart from TunnelLeggers and in another way (objects, suppliers,
 * a walk over the tokens for the errors 2 to 5), so that random runs can compare the two.
 */
final class Model {
    static final Set<String> KEYWORDS = new HashSet<>(Arrays.asList(("bore long low shaft at draught legger strength "
        + "lungs boat weight from west east due by and whistle rest when minute turn air breath place waits inside "
        + "capped not or min max").split(" ")));
    private static final Pattern TOKEN = Pattern.compile("[a-z][a-z0-9]*|[0-9]+|<=|>=|[\\[\\]();,+*/<>=-]");

    static final class Token {
        final String text;
        final int at;
        final boolean bad;

        Token(String text, int at, boolean bad) {
            this.text = text;
            this.at = at;
            this.bad = bad;
        }

        boolean isNumber() {
            return !bad && text.matches("[0-9]+");
        }

        boolean isName() {
            return !bad && text.matches("[a-z].*") && !KEYWORDS.contains(text);
        }
    }

    static final class Wrong extends Exception {
        private static final long serialVersionUID = 1;
        final int error;
        final int at;

        Wrong(int error, int at) {
            this.error = error;
            this.at = at;
        }
    }

    static final class Bore {
        int number;
        int length;
        int low;
        int first;
    }

    static final class Place {
        Bore bore;
        int air = 100;
    }

    static final class Shaft {
        int at;
        int draught;
    }

    static final class Legger {
        int strength;
        int lungs;
        int breath;
        int cap = -1;
        int walks;
        Boat boat;

        int push() {
            return breath >= 1 ? strength : 0;
        }
    }

    static final class Boat {
        int number;
        int weight;
        int end;
        int due;
        String how = "waits";
        int place = -1;
        int pushed;
        int outAt = -1;
        final List<Legger> crew = new ArrayList<>();

        boolean inside() {
            return how.equals("inside");
        }
    }

    static final class Order {
        int turn = -1;
        Legger rests;
        IntSupplier test;
    }

    private List<Token> tokens = new ArrayList<>();
    private int next;
    String list = "";
    int minute;
    int turn;
    Legger idle;
    Map<String, Bore> bores = new LinkedHashMap<>();
    List<Place> places = new ArrayList<>();
    Map<String, Shaft> shafts = new LinkedHashMap<>();
    Map<String, Legger> leggersByName = new LinkedHashMap<>();
    Map<String, Boat> boatsByName = new LinkedHashMap<>();
    List<Order> orders = new ArrayList<>();

    List<Legger> leggers() {
        return new ArrayList<>(leggersByName.values());
    }

    List<Boat> boats() {
        return new ArrayList<>(boatsByName.values());
    }

    // ---- reading

    /** Returns the error and its position, or 0 and -1. */
    int[] learn(String text) {
        Model fresh = new Model();
        try {
            fresh.tokens = split(text);
            fresh.lookForError1();
            fresh.lookForOthers();
            fresh.build();
        } catch (Wrong wrong) {
            return new int[] {wrong.error, wrong.at};
        }
        list = text;
        turn = 0;
        // The tests of the orders ask this object, so it is built once more, for itself.
        tokens = fresh.tokens;
        try {
            build();
        } catch (Wrong wrong) {
            throw new IllegalStateException("never");
        }
        return new int[] {0, -1};
    }

    private static List<Token> split(String text) {
        List<Token> found = new ArrayList<>();
        Matcher matcher = TOKEN.matcher(text);
        int at = 0;
        while (true) {
            while (at < text.length() && (text.charAt(at) == ' ' || text.charAt(at) == '\n')) {
                at++;
            }
            if (at == text.length()) {
                found.add(new Token("", at, false));
                return found;
            }
            if (!matcher.find(at) || matcher.start() != at || found.size() == 400) {
                found.add(new Token("?", at, true));
                return found;
            }
            String token = matcher.group();
            boolean tooLong = token.length() > (Character.isDigit(token.charAt(0)) ? 6 : 10);
            found.add(new Token(token, at, tooLong));
            if (tooLong) {
                return found;
            }
            at = matcher.end();
        }
    }

    private Token look() {
        return tokens.get(next);
    }

    private Wrong here() {
        return new Wrong(1, look().at);
    }

    private String need(String... choices) throws Wrong {
        for (String choice : choices) {
            if (!look().bad && look().text.equals(choice)) {
                next++;
                return choice;
            }
        }
        throw here();
    }

    private boolean sees(String... choices) {
        return !look().bad && Arrays.asList(choices).contains(look().text);
    }

    private void form(String words) throws Wrong {
        for (String word : words.split(" ")) {
            if (word.equals("NAME") || word.equals("NUMBER")) {
                if (word.equals("NAME") ? !look().isName() : !look().isNumber()) {
                    throw here();
                }
                next++;
            } else if (word.equals("END")) {
                need("west", "east");
            } else {
                need(word);
            }
        }
    }

    private void lookForError1() throws Wrong {
        next = 0;
        while (look().bad || !look().text.isEmpty()) {
            if (sees("bore")) {
                form("bore NAME long NUMBER low NUMBER");
            } else if (sees("shaft")) {
                form("shaft NAME at NUMBER draught NUMBER");
            } else if (sees("legger")) {
                form("legger NAME strength NUMBER lungs NUMBER");
            } else if (sees("boat")) {
                form("boat NAME weight NUMBER from END due NUMBER by NAME and NAME");
            } else if (sees("whistle")) {
                form("whistle END when");
                test(0);
            } else if (sees("rest")) {
                form("rest NAME when");
                test(0);
            } else {
                throw here();
            }
            need(";");
        }
    }

    private int deeper(int depth, String opening) throws Wrong {
        if (depth + 1 > 8) {
            throw here();
        }
        need(opening);
        return depth + 1;
    }

    private IntSupplier test(int depth) throws Wrong {
        IntSupplier all = both(depth);
        while (sees("or")) {
            next++;
            IntSupplier left = all;
            IntSupplier right = both(depth);
            all = () -> left.getAsInt() + right.getAsInt() > 0 ? 1 : 0;
        }
        return all;
    }

    private IntSupplier both(int depth) throws Wrong {
        IntSupplier all = single(depth);
        while (sees("and")) {
            next++;
            IntSupplier left = all;
            IntSupplier right = single(depth);
            all = () -> left.getAsInt() * right.getAsInt();
        }
        return all;
    }

    private IntSupplier single(int depth) throws Wrong {
        if (sees("not")) {
            IntSupplier inner = single(deeper(depth, "not"));
            return () -> 1 - inner.getAsInt();
        }
        if (sees("[")) {
            IntSupplier inner = test(deeper(depth, "["));
            need("]");
            return inner;
        }
        if (sees("inside")) {
            next++;
            String name = name();
            return () -> boatsByName.get(name).inside() ? 1 : 0;
        }
        if (sees("capped")) {
            next++;
            String name = name();
            return () -> leggersByName.get(name).cap < 0 ? 1 : 0;
        }
        IntSupplier left = sum(depth);
        String sign = need("<", ">", "=", "<=", ">=");
        IntSupplier right = sum(depth);
        return () -> {
            int sense = Integer.compare(left.getAsInt(), right.getAsInt());
            boolean holds = sense == 0 ? sign.contains("=") : sign.contains(sense < 0 ? "<" : ">");
            return holds ? 1 : 0;
        };
    }

    private String name() throws Wrong {
        if (!look().isName()) {
            throw here();
        }
        next++;
        return tokens.get(next - 1).text;
    }

    private IntSupplier sum(int depth) throws Wrong {
        IntSupplier all = product(depth);
        while (sees("+", "-")) {
            boolean plus = need("+", "-").equals("+");
            IntSupplier left = all;
            IntSupplier right = product(depth);
            all = () -> left.getAsInt() + (plus ? right.getAsInt() : -right.getAsInt());
        }
        return all;
    }

    private IntSupplier product(int depth) throws Wrong {
        IntSupplier all = value(depth);
        while (sees("*", "/")) {
            boolean times = need("*", "/").equals("*");
            IntSupplier left = all;
            IntSupplier right = value(depth);
            all = times
                ? () -> (int) ((long) left.getAsInt() * right.getAsInt())
                : () -> right.getAsInt() == 0 ? 0 : (int) ((long) left.getAsInt() / right.getAsInt());
        }
        return all;
    }

    private IntSupplier value(int depth) throws Wrong {
        if (look().isNumber()) {
            int number = Integer.parseInt(look().text);
            next++;
            return () -> number;
        }
        if (sees("-")) {
            IntSupplier inner = value(deeper(depth, "-"));
            return () -> -inner.getAsInt();
        }
        if (sees("(")) {
            IntSupplier inner = sum(deeper(depth, "("));
            need(")");
            return inner;
        }
        String word = need("minute", "turn", "waits", "air", "breath", "place", "min", "max");
        switch (word) {
            case "minute":
                return () -> minute;
            case "turn":
                return () -> turn;
            case "waits":
                int end = need("west", "east").equals("west") ? 0 : 1;
                return () -> (int) boats().stream().filter(b -> b.how.equals("waits") && b.due <= minute && b.end == end)
                    .count();
            case "breath":
                String legger = name();
                return () -> leggersByName.get(legger).breath;
            case "place":
                String boat = name();
                return () -> boatsByName.get(boat).place;
            case "air":
                IntSupplier which = sum(deeper(depth, "("));
                need(")");
                return () -> {
                    int place = which.getAsInt();
                    return place < 0 || place >= places.size() ? 0 : places.get(place).air;
                };
            default:
                int inner = deeper(depth, "(");
                IntSupplier one = sum(inner);
                need(",");
                IntSupplier two = sum(inner);
                need(")");
                return word.equals("min")
                    ? () -> Math.min(one.getAsInt(), two.getAsInt())
                    : () -> Math.max(one.getAsInt(), two.getAsInt());
        }
    }

    /** Walks over the tokens and asks at each one, by those ahead of it, what it has to be. */
    private void lookForOthers() throws Wrong {
        Map<String, Set<String>> told = new LinkedHashMap<>();
        for (String sort : new String[] {"bore", "shaft", "legger", "boat"}) {
            told.put(sort, new LinkedHashSet<>());
        }
        int placesTold = 0;
        int ordersTold = 0;
        String line = "";
        String newName = "";
        for (int i = 0; i + 1 < tokens.size(); i++) {
            Token token = tokens.get(i);
            String before = i == 0 ? ";" : tokens.get(i - 1).text;
            if (before.equals(";")) {
                line = token.text;
                newName = "";
                if ((line.equals("whistle") || line.equals("rest")) && ++ordersTold > 16) {
                    throw new Wrong(4, token.at);
                }
            } else if (token.isName() && told.containsKey(before)) {
                newName = token.text;
                checkNew(told.get(before), before, token);
            } else if (token.isName()) {
                boolean ofBoat = before.equals("inside") || before.equals("place");
                if (!told.get(ofBoat ? "boat" : "legger").contains(token.text)) {
                    throw new Wrong(3, token.at);
                }
                if (line.equals("boat") && before.equals("and") && tokens.get(i - 2).text.equals(token.text)) {
                    throw new Wrong(5, token.at);
                }
            } else if (token.isNumber() && told.containsKey(line)) {
                int number = Integer.parseInt(token.text);
                if (!inRange(before, number) || before.equals("at") && number >= placesTold) {
                    throw new Wrong(5, token.at);
                }
                placesTold += before.equals("long") ? number : 0;
            } else if (token.text.equals(";") && told.containsKey(line)) {
                told.get(line).add(newName);
            }
        }
    }

    private static void checkNew(Set<String> told, String sort, Token token) throws Wrong {
        if (told.contains(token.text)) {
            throw new Wrong(2, token.at);
        }
        int most = sort.equals("bore") ? 5 : sort.equals("shaft") ? 4 : sort.equals("legger") ? 6 : 8;
        if (told.size() >= most) {
            throw new Wrong(4, token.at);
        }
    }

    private static boolean inRange(String word, int number) {
        switch (word) {
            case "long":
                return number >= 1 && number <= 12;
            case "low":
                return number <= 9;
            case "at":
                return number <= 59;
            case "draught":
                return number >= 1 && number <= 30;
            case "strength":
            case "lungs":
                return number >= 1 && number <= 9;
            case "weight":
                return number >= 1 && number <= 60;
            default:
                return number <= 999;
        }
    }

    private int numberAt(int token) {
        return Integer.parseInt(tokens.get(token).text);
    }

    private void build() throws Wrong {
        bores = new LinkedHashMap<>();
        places = new ArrayList<>();
        shafts = new LinkedHashMap<>();
        leggersByName = new LinkedHashMap<>();
        boatsByName = new LinkedHashMap<>();
        orders = new ArrayList<>();
        next = 0;
        while (!look().text.isEmpty()) {
            buildLine(next);
            while (!look().text.equals(";")) {
                next++;
            }
            next++;
        }
    }

    private void buildLine(int i) throws Wrong {
        String name = tokens.get(i + 1).text;
        switch (tokens.get(i).text) {
            case "bore":
                Bore bore = new Bore();
                bore.number = bores.size();
                bore.length = numberAt(i + 3);
                bore.low = numberAt(i + 5);
                bore.first = places.size();
                for (int p = 0; p < bore.length; p++) {
                    Place place = new Place();
                    place.bore = bore;
                    places.add(place);
                }
                bores.put(name, bore);
                break;
            case "shaft":
                Shaft shaft = new Shaft();
                shaft.at = numberAt(i + 3);
                shaft.draught = numberAt(i + 5);
                shafts.put(name, shaft);
                break;
            case "legger":
                Legger legger = new Legger();
                legger.strength = numberAt(i + 3);
                legger.lungs = numberAt(i + 5);
                legger.breath = 10 * legger.lungs;
                leggersByName.put(name, legger);
                break;
            case "boat":
                Boat boat = new Boat();
                boat.number = boatsByName.size();
                boat.weight = numberAt(i + 3);
                boat.end = tokens.get(i + 5).text.equals("west") ? 0 : 1;
                boat.due = numberAt(i + 7);
                boat.crew.add(leggersByName.get(tokens.get(i + 9).text));
                boat.crew.add(leggersByName.get(tokens.get(i + 11).text));
                boatsByName.put(name, boat);
                break;
            default:
                Order order = new Order();
                if (tokens.get(i).text.equals("whistle")) {
                    order.turn = name.equals("west") ? 0 : 1;
                } else {
                    order.rests = leggersByName.get(name);
                }
                next = i + 3;
                order.test = test(0);
                orders.add(order);
        }
    }

    // ---- minutes

    void minute() {
        for (Order order : orders) {
            if (order.turn >= 0 && order.test.getAsInt() == 1) {
                turn = order.turn;
                break;
            }
        }
        for (Boat boat : boats()) {
            if (canEnter(boat)) {
                boat.how = "inside";
                boat.crew.forEach(l -> l.boat = boat);
                boat.pushed = 0;
                arrive(boat, turn == 0 ? 0 : places.size() - 1);
            }
        }
        boats().stream().filter(Boat::inside).forEach(this::push);
        for (Boat boat : boats()) {
            if (boat.inside()) {
                Place place = places.get(boat.place);
                place.air = Math.max(place.air - 6, 0);
                int lack = 40 - place.air;
                for (Legger legger : boat.crew) {
                    legger.breath += lack > 0 ? -1 - lack / 10 : 1;
                }
            }
        }
        for (Legger legger : leggers()) {
            if (legger.boat == null) {
                legger.breath += 2;
            }
            legger.breath = Math.min(10 * legger.lungs, Math.max(0, legger.breath));
        }
        for (Shaft shaft : shafts.values()) {
            int reach = 0;
            for (int better = shaft.draught; better > 0; better -= 2) {
                refresh(shaft.at - reach, better);
                if (reach > 0) {
                    refresh(shaft.at + reach, better);
                }
                reach++;
            }
        }
        for (Legger legger : leggers()) {
            if (legger.walks > 0) {
                legger.walks--;
            }
        }
        minute++;
    }

    private void refresh(int place, int better) {
        if (place >= 0 && place < places.size()) {
            places.get(place).air = Math.min(100, places.get(place).air + better);
        }
    }

    boolean canEnter(Boat boat) {
        if (!boat.how.equals("waits") || boat.due > minute || boat.end != turn || places.isEmpty()) {
            return false;
        }
        for (Boat other : boats()) {
            if (other.inside() && other.end != boat.end) {
                return false;
            }
        }
        for (int i = 0; i < 4 && i < places.size(); i++) {
            if (boatAt(boat.end == 0 ? i : places.size() - 1 - i) != null) {
                return false;
            }
        }
        for (Legger legger : boat.crew) {
            if (legger.boat != null || legger.walks > 0 || legger.breath < 20) {
                return false;
            }
        }
        return orders.stream().noneMatch(o -> boat.crew.contains(o.rests) && o.test.getAsInt() == 1);
    }

    Boat boatAt(int place) {
        for (Boat boat : boats()) {
            if (boat.inside() && boat.place == place) {
                return boat;
            }
        }
        return null;
    }

    private void arrive(Boat boat, int place) {
        boat.place = place;
        for (Legger legger : boat.crew) {
            if (legger.cap == place) {
                legger.cap = -1;
            }
        }
        for (Legger legger : boat.crew) {
            if (legger.cap == -1 && places.get(place).bore.low + legger.strength > 12) {
                legger.cap = place;
            }
        }
    }

    private void push(Boat boat) {
        int strength = 0;
        for (Legger legger : boat.crew) {
            strength += legger == idle ? 0 : legger.push();
        }
        boat.pushed += strength * places.get(boat.place).air / 100;
        while (boat.pushed >= boat.weight) {
            int ahead = boat.place + (boat.end == 0 ? 1 : -1);
            if (ahead < 0 || ahead >= places.size()) {
                boat.how = "out";
                boat.place = -1;
                boat.pushed = 0;
                boat.outAt = minute;
                boat.crew.forEach(l -> {
                    l.boat = null;
                    l.walks = 10;
                });
                return;
            }
            if (boatAt(ahead) != null) {
                boat.pushed = 0;
            } else {
                boat.pushed -= boat.weight;
                arrive(boat, ahead);
            }
        }
    }

    long boatsThat(String how) {
        return boats().stream().filter(b -> b.how.equals(how)).count();
    }

    // ---- what would be

    Model twin() {
        Model twin = new Model();
        twin.learn(list);
        twin.minute = minute;
        twin.turn = turn;
        for (int p = 0; p < places.size(); p++) {
            twin.places.get(p).air = places.get(p).air;
        }
        for (int b = 0; b < boats().size(); b++) {
            Boat from = boats().get(b);
            Boat to = twin.boats().get(b);
            to.end = from.end;
            to.due = from.due;
            to.how = from.how;
            to.place = from.place;
            to.pushed = from.pushed;
            to.outAt = from.outAt;
        }
        for (int l = 0; l < leggers().size(); l++) {
            Legger from = leggers().get(l);
            Legger to = twin.leggers().get(l);
            to.breath = from.breath;
            to.cap = from.cap;
            to.walks = from.walks;
            to.boat = from.boat == null ? null : twin.boats().get(from.boat.number);
        }
        return twin;
    }

    Model later(int minutes) {
        Model twin = twin();
        for (int i = 0; i < minutes; i++) {
            twin.minute();
        }
        return twin;
    }
}
