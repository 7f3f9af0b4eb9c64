import java.util.ArrayList;
import java.util.List;
import java.util.Random;

/** Makes random lists, most of them right, or nearly so. */
final class Lists {
    private final Random random;
    private final StringBuilder text = new StringBuilder();
    private final List<String> leggers = new ArrayList<>();
    private final List<String> boats = new ArrayList<>();

    Lists(Random random) {
        this.random = random;
    }

    private int from(int least, int most) {
        return least + random.nextInt(most - least + 1);
    }

    private <T> T one(List<T> of) {
        return of.get(random.nextInt(of.size()));
    }

    private String one(String... of) {
        return of[random.nextInt(of.length)];
    }

    String list() {
        text.setLength(0);
        leggers.clear();
        boats.clear();
        int places = 0;
        int bores = from(1, 5);
        for (int i = 0; i < bores; i++) {
            int length = random.nextInt(3) == 0 ? from(1, 12) : from(1, 4);
            places += length;
            text.append("bore b").append(i).append(" long ").append(length).append(" low ").append(from(0, 9)).append(";\n");
        }
        for (int i = random.nextInt(5); i > 0; i--) {
            text.append("shaft s").append(i).append(" at ").append(random.nextInt(places)).append(" draught ")
                .append(from(1, random.nextBoolean() ? 30 : 6)).append("; ");
        }
        for (int i = from(2, 6); i > 0; i--) {
            leggers.add("l" + i);
            text.append("legger l").append(i).append(" strength ").append(from(1, 9)).append(" lungs ")
                .append(from(2, 9)).append(";");
        }
        for (int i = from(1, 8); i > 0; i--) {
            addBoat("k" + i);
        }
        for (int i = random.nextInt(9); i > 0 && text.length() < 1700; i--) {
            addOrder();
        }
        return text.toString();
    }

    private void addBoat(String name) {
        String first = one(leggers);
        String second = first;
        while (second.equals(first)) {
            second = one(leggers);
        }
        boats.add(name);
        text.append("boat ").append(name).append(" weight ").append(from(1, random.nextBoolean() ? 60 : 12))
            .append(" from ").append(one("west", "east")).append(" due ")
            .append(random.nextBoolean() ? 0 : random.nextInt(60)).append(" by ").append(first).append(" and ")
            .append(second).append("; ");
    }

    private void addOrder() {
        if (random.nextInt(3) > 0) {
            text.append("whistle ").append(one("west", "east"));
        } else {
            text.append("rest ").append(one(leggers));
        }
        text.append(" when ");
        test(3);
        text.append(";\n");
    }

    private void test(int depth) {
        single(depth);
        for (int i = random.nextInt(3); i > 0; i--) {
            text.append(one(" and ", " or "));
            single(depth);
        }
    }

    private void single(int depth) {
        int sort = random.nextInt(depth > 0 ? 8 : 5);
        if (sort == 0) {
            text.append("inside ").append(one(boats));
        } else if (sort == 1) {
            text.append("capped ").append(one(leggers));
        } else if (sort <= 5) {
            sum(depth - 1);
            text.append(one("<", " > ", "=", "<= ", " >="));
            sum(depth - 1);
        } else if (sort == 6) {
            text.append("not ");
            single(depth - 1);
        } else {
            text.append("[");
            test(depth - 1);
            text.append("]");
        }
    }

    private void sum(int depth) {
        value(depth);
        for (int i = random.nextInt(3) - random.nextInt(2); i > 0; i--) {
            text.append(one("+", "-", " * ", " /"));
            value(depth);
        }
    }

    private void value(int depth) {
        int sort = random.nextInt(depth > 0 ? 11 : 7);
        if (sort < 2) {
            text.append(random.nextInt(4) == 0 ? random.nextInt(1000000) : random.nextInt(60));
        } else if (sort == 2) {
            text.append(one("minute", "turn", "minute/10*10"));
        } else if (sort == 3) {
            text.append("waits ").append(one("west", "east"));
        } else if (sort == 4) {
            text.append("breath ").append(one(leggers));
        } else if (sort == 5) {
            text.append("place ").append(one(boats));
        } else if (sort == 6) {
            text.append("-");
            value(depth - 1);
        } else {
            text.append(sort == 7 ? "(" : sort == 8 ? "air(" : one("min(", "max ("));
            int from = text.length();
            sum(depth - 1);
            if (text.charAt(from - 1) == '(' && sort > 8) {
                text.append(", ");
                sum(depth - 1);
            }
            text.append(")");
        }
    }

    /** Spoils a list at some places. */
    String spoilt(String list) {
        return random.nextInt(6) == 0 ? withOneMore(list) : spoiltByte(list);
    }

    /** Tells a line once more, or some more times under other names. */
    private String withOneMore(String list) {
        String[] lines = list.split(";");
        String line = lines[random.nextInt(lines.length - 1)].trim();
        String name = line.split(" ")[1];
        StringBuilder more = new StringBuilder(list);
        for (int i = random.nextInt(7); i > 0; i--) {
            more.append(line.replaceFirst(name, name.equals("west") || name.equals("east") ? name : "x" + i)).append(";");
        }
        return more.append(line).append(";").toString();
    }

    private String spoiltByte(String list) {
        StringBuilder spoilt = new StringBuilder(list);
        for (int i = from(1, 2); i > 0; i--) {
            int at = random.nextInt(spoilt.length());
            int end = Math.min(spoilt.length(), at + from(1, 4));
            String[] others = {"", " ", ";", "(", "[", "-", "not ", "0", "13", "61", "l1", "k1", "b0", "zz", "west", "#",
                "=", "<=", "1234567", "abcdefghijk", "\u00e9", "or", "9 ", "- - - - - - - - - ", "((((((((("};
            if (random.nextInt(3) == 0) {
                replaceToken(spoilt, at, one(others));
            } else {
                spoilt.replace(at, random.nextBoolean() ? at : end, one(others));
            }
        }
        return spoilt.toString();
    }

    private static void replaceToken(StringBuilder list, int at, String by) {
        int start = at;
        while (start > 0 && Character.isLetterOrDigit(list.charAt(start - 1))) {
            start--;
        }
        int end = at;
        while (end < list.length() && Character.isLetterOrDigit(list.charAt(end))) {
            end++;
        }
        list.replace(start, end, by);
    }

    static String cut(String list) {
        return list.length() > 2000 ? list.substring(0, 2000) : list;
    }
}
