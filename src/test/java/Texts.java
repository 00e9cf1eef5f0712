import java.util.ArrayList;
import java.util.List;
import java.util.Random;

/** Makes texts: most of them whole, some with a token too many, too few or another. */
final class Texts {
    private static final String[] NAMES = {"a", "b", "i", "j", "k", "p0", "dots", "abcdefgh", "xx", "tox", "y2"};
    private static final String[] ODD = {"pattern", "end", "drop", "line", "comb", "wave", "for", "to", "if", "else",
        "do", "x", "y", "or", "and", ";", ",", "+", "-", "*", "/", "%", "=", "==", "!=", "<", "<=", "(", ")", "1",
        "12345", "a", "abcdefghi", "!", "@", "A", ".", ">", "\u00e4", "\u0000", "zz9", "\f", "1a", "0007", "_"};

    private final Random random;
    private final List<String> tokens = new ArrayList<>();
    private final List<String> told = new ArrayList<>();
    private final List<Integer> needs = new ArrayList<>();
    private final List<String> reach = new ArrayList<>();
    /** Of which fault, if of any, the text has some by and by. */
    private final int fault;

    Texts(Random random) {
        this.random = random;
        this.fault = random.nextInt(10);
    }

    String text() {
        int patterns = random.nextInt(20) == 0 ? 7 + random.nextInt(3) : 1 + random.nextInt(4);
        for (int i = 0; i < patterns; i++) {
            pattern(random.nextInt(12) == 0 ? 25 : 4);
        }
        if (random.nextInt(60) == 0) {
            while (tokens.size() < 480) {
                pattern(40);
            }
        }
        int odd = random.nextInt(3) == 0 ? 1 + random.nextInt(2) : 0;
        for (int i = 0; i < odd; i++) {
            spoil();
        }
        return joined();
    }

    private void spoil() {
        int at = random.nextInt(tokens.size());
        String other = ODD[random.nextInt(ODD.length)];
        switch (random.nextInt(5)) {
            case 0:
                tokens.remove(at);
                break;
            case 1:
                tokens.add(at, other);
                break;
            case 2:
                tokens.set(at, other);
                break;
            case 3:
                tokens.set(at, tokens.get(random.nextInt(tokens.size())));
                break;
            default:
                if (random.nextInt(3) == 0) {
                    while (tokens.size() > at + 1) {
                        tokens.remove(tokens.size() - 1);
                    }
                }
        }
        if (tokens.isEmpty()) {
            tokens.add("pattern");
        }
    }

    private String joined() {
        StringBuilder text = new StringBuilder();
        for (String token : tokens) {
            boolean word = text.length() > 0 && Character.isLetterOrDigit(text.charAt(text.length() - 1))
                    && Character.isLetterOrDigit(token.charAt(0));
            if (word || random.nextInt(6) == 0) {
                text.append(" \t\n\r".charAt(random.nextInt(3) == 0 ? random.nextInt(4) : 0));
            }
            text.append(token);
        }
        if (random.nextInt(4) == 0) {
            text.append(" ");
        }
        text.setLength(Math.min(text.length(), 2000));
        return text.toString();
    }

    private boolean faulty(int number) {
        return fault == number && random.nextInt(number == 5 ? 2 : 6) == 0;
    }

    private void add(String... more) {
        for (String token : more) {
            tokens.add(token);
        }
    }

    private String name() {
        return NAMES[random.nextInt(NAMES.length)];
    }

    private void pattern(int most) {
        String name = name();
        boolean twice = faulty(3);
        for (int i = 0; i < 99 && told.contains(name) != (twice && !told.isEmpty()); i++) {
            name = name();
        }
        add("pattern", name);
        reach.clear();
        int parameters = random.nextInt(3);
        for (int i = 0; i < parameters; i++) {
            add(i == 0 ? "(" : ",", bring());
        }
        if (parameters > 0) {
            add(")");
        }
        deeds(0, most);
        add("end");
        told.add(name);
        needs.add(parameters);
    }

    private String bring() {
        String name = name();
        boolean twice = faulty(3);
        for (int i = 0; i < 99 && reach.contains(name) != (twice && !reach.isEmpty()); i++) {
            name = name();
        }
        reach.add(name);
        return name;
    }

    private void deeds(int depth, int most) {
        int count = random.nextInt(most + 1);
        for (int i = 0; i < count && tokens.size() < 520; i++) {
            deed(depth);
        }
    }

    private void deed(int depth) {
        boolean deeper = depth < 6 || faulty(2);
        int choice = random.nextInt(12);
        if (random.nextInt(4) != 0 && depth > 2) {
            choice = random.nextInt(6);
        }
        if (choice >= 8 && !deeper) {
            choice = 0;
        }
        if (choice < 3) {
            add("drop");
            point();
            add(",");
            point();
            add(",");
            small(1, 80);
            add(",");
            small(0, 7);
            add(";");
        } else if (choice < 6) {
            drag(choice);
        } else if (choice < 8) {
            doOther();
        } else if (choice < 10) {
            add("for");
            int at = tokens.size();
            add("=");
            small(-2, 3);
            add("to");
            if (random.nextInt(6) == 0) {
                sum(0);
            } else {
                small(-1, random.nextInt(9) == 0 ? 900 : 5);
            }
            tokens.add(at, bring());
            deeds(depth + 1, 2);
            add("end");
            reach.remove(reach.size() - 1);
        } else {
            add("if");
            condition();
            deeds(depth + 1, 2);
            if (random.nextInt(2) == 0) {
                add("else");
                deeds(depth + 1, 2);
            }
            add("end");
        }
    }

    private void drag(int choice) {
        add(choice == 3 ? "line" : choice == 4 ? "comb" : "wave", random.nextBoolean() ? "x" : "y");
        if (choice == 5) {
            small(2, 300);
        } else {
            point();
            add(",");
        }
        if (choice == 4) {
            small(1, 200);
            add(",");
            small(1, 20);
            add(",");
        } else if (choice == 5) {
            add(",");
        }
        small(-100, 100);
        if (choice != 5) {
            add(",");
            small(1, 200);
        }
        add(";");
    }

    private void doOther() {
        if (told.isEmpty() && fault == 4 || faulty(4)) {
            add("do", name());
            arguments(random.nextInt(3));
        } else if (told.isEmpty()) {
            add("wave", "x", "7", ",", "5");
        } else {
            int at = random.nextInt(told.size());
            add("do", told.get(at));
            arguments(faulty(5) ? random.nextInt(3) : needs.get(at));
        }
        add(";");
    }

    private void arguments(int count) {
        for (int i = 0; i < count; i++) {
            add(i == 0 ? "(" : ",");
            if (random.nextBoolean()) {
                small(0, 5);
            } else {
                sum(0);
            }
        }
        if (count > 0) {
            add(")");
        }
    }

    private void condition() {
        int relations = 1 + random.nextInt(3);
        for (int i = 0; i < relations; i++) {
            if (i > 0) {
                add(random.nextBoolean() ? "or" : "and");
            }
            sum(1);
            add(new String[] {"==", "!=", "<", "<="}[random.nextInt(4)]);
            sum(1);
        }
    }

    private void point() {
        if (random.nextInt(60) == 0) {
            sum(0);
        } else {
            small(0, 1023);
        }
    }

    /** A number that is likely to be between the two, told plainly or by a name. */
    private void small(int least, int most) {
        int value = least + random.nextInt(most - least + 1);
        if (random.nextInt(150) == 0) {
            value = random.nextBoolean() ? least - 1 : most + 1;
        }
        if (!reach.isEmpty() && random.nextInt(3) == 0) {
            add(reach.get(random.nextInt(reach.size())), random.nextInt(3) == 0 ? "*" : "+");
        }
        if (value < 0) {
            add("-");
        }
        add(Integer.toString(Math.abs(value)));
    }

    private void sum(int depth) {
        product(depth);
        while (random.nextInt(3) == 0) {
            add(random.nextBoolean() ? "+" : "-");
            product(depth);
        }
    }

    private void product(int depth) {
        unit(depth);
        while (random.nextInt(4) == 0) {
            add(random.nextBoolean() ? "*" : random.nextBoolean() ? "/" : "%");
            unit(depth);
        }
    }

    private void unit(int depth) {
        int choice = random.nextInt(8);
        boolean deeper = depth < 6 && random.nextInt(depth + 1) < 3 || faulty(2);
        if (choice < 2 && deeper) {
            add("-");
            unit(depth + 1);
        } else if (choice < 4 && deeper) {
            add("(");
            sum(depth + 1);
            add(")");
        } else if (faulty(4)) {
            add(name());
        } else if (choice < 7 && !reach.isEmpty()) {
            add(reach.get(random.nextInt(reach.size())));
        } else {
            add(Integer.toString(random.nextInt(random.nextBoolean() ? 4 : 10000)));
        }
    }
}
