import java.lang.reflect.Constructor;
import java.lang.reflect.Field;
import java.lang.reflect.Method;
import java.lang.reflect.Modifier;
import java.nio.charset.StandardCharsets;
import java.nio.file.Files;
import java.nio.file.Path;
import java.util.ArrayList;
import java.util.List;
import java.util.Set;
import java.util.TreeSet;
import java.util.regex.Matcher;
import java.util.regex.Pattern;

/** The face that the document tells, no more and no less, and what of LANGUAGE.md a text search can see. */
public final class RulesTest {
    private static final String FACE = "feed 5 back 1 read 0 place 0 drop 4 line 4 comb 6 wave 3 lay 1 strike 1 run 3 "
            + "broke 0 where 0 parameters 1 kind 1 number 2 struck 2 colour 3 from 4 to 4 home 3 sheets 1 cell 4 "
            + "area 3 pieces 2 largest 2 edge 4 match 3 unlike 3 made 2 off 2 row 3 rowed 1 count 1";
    private static final String[] FORBIDDEN = {"throw", "throws", "try", "catch", "finally", "synchronized", "assert",
        "package", "volatile", "transient", "native", "System(?!\\.arraycopy\\b)",
        "import(?! java\\.util\\.(ArrayList|List|Arrays|Iterator);)", "Math\\.\\w*Exact"};
    /** LANGUAGE.md says "some" of these three; that much more is still some. */
    private static final int LINES_MOST = 66;
    private static final int CLASSES_MOST = 13;
    private static final int FIELDS_MOST = 22;

    private static int wrong;

    public static void main(String[] args) throws Exception {
        face();
        inside();
        String source = Files.readString(Path.of(args[0]), StandardCharsets.US_ASCII);
        String plain = source.replaceAll("(?s)/\\*.*?\\*/", "").replaceAll("//[^\n]*", "")
                .replaceAll("\"[^\"\n]*\"", "\"\"").replaceAll("'(\\\\.|[^'\\\\])'", "' '");
        for (String word : FORBIDDEN) {
            check(!Pattern.compile("\\b" + word + "\\b").matcher(plain).find(), "the source has " + word);
        }
        String caseless = plain.replaceAll("\\b(case [^:\n]*?|default) ->", "");
        check(!caseless.contains("->") && !caseless.contains("::"), "the source has a lambda or a method reference");
        check(!plain.contains("while (true)") && !plain.contains("for (;;)"), "a loop has no end to be seen");
        check(!plain.matches("(?s).*\"\"\\s*\\+.*") && !plain.matches("(?s).*\\+\\s*\"\".*"), "texts are joined by +");
        lengths(plain);
        System.out.println("RulesTest: " + wrong + " rules broken");
        if (wrong != 0) {
            System.exit(1);
        }
    }

    private static void check(boolean holds, String what) {
        if (!holds) {
            wrong++;
            System.out.println(what);
        }
    }

    private static void face() throws Exception {
        Class<?> type = MarbleBath.class;
        check(type.getModifiers() == (Modifier.PUBLIC | Modifier.FINAL), "the class is public and final");
        check(type.getSuperclass() == Object.class && type.getInterfaces().length == 0, "it is of nothing else");
        Set<String> want = new TreeSet<>();
        String[] words = FACE.split(" ");
        for (int i = 0; i < words.length; i += 2) {
            want.add(words[i] + " " + words[i + 1]);
        }
        Set<String> names = new TreeSet<>();
        for (String each : want) {
            names.add(each.substring(0, each.indexOf(' ')));
        }
        Set<String> have = new TreeSet<>();
        for (Method method : type.getDeclaredMethods()) {
            if (Modifier.isPrivate(method.getModifiers())) {
                check(!names.contains(method.getName()), "a private method has the public name " + method.getName());
                continue;
            }
            check(method.getModifiers() == Modifier.PUBLIC, method + " is public alone");
            check(method.getReturnType() == int.class, method + " answers an int");
            for (Class<?> parameter : method.getParameterTypes()) {
                check(parameter == int.class, method + " takes ints");
            }
            have.add(method.getName() + " " + method.getParameterCount());
        }
        check(have.equals(want), "public methods are " + have);
        for (Field field : type.getDeclaredFields()) {
            boolean none = field.getName().equals("NONE");
            check(none || Modifier.isPrivate(field.getModifiers()), field + " is private");
        }
        int constant = Modifier.PUBLIC | Modifier.STATIC | Modifier.FINAL;
        check(type.getField("NONE").getModifiers() == constant && MarbleBath.NONE == -1, "NONE is -1");
        List<Constructor<?>> constructors = new ArrayList<>(List.of(type.getDeclaredConstructors()));
        check(constructors.size() == 1 && constructors.get(0).getModifiers() == Modifier.PUBLIC
                && constructors.get(0).getParameterCount() == 0, "one public constructor");
    }

    private static void inside() {
        Class<?>[] classes = MarbleBath.class.getDeclaredClasses();
        check(classes.length + 1 <= CLASSES_MOST, "at most some twelve classes");
        for (Class<?> type : classes) {
            check(Modifier.isStatic(type.getModifiers()), type + " is static");
            check(!Modifier.isPublic(type.getModifiers()) && !Modifier.isProtected(type.getModifiers()),
                    type + " is private or package-visible");
            int fields = 0;
            for (Field field : type.getDeclaredFields()) {
                boolean isStatic = Modifier.isStatic(field.getModifiers());
                check(!isStatic || Modifier.isFinal(field.getModifiers()), field + " is final");
                fields += isStatic ? 0 : 1;
            }
            check(fields <= FIELDS_MOST, type + " has some twenty fields at most");
            for (Method method : type.getDeclaredMethods()) {
                check(method.getParameterCount() <= 7, method + " takes at most seven");
                check(!Modifier.isPrivate(method.getModifiers()) || !FACE.matches("(.* )?" + method.getName() + " \\d.*"),
                        method + " is private and bears a public name");
            }
        }
    }

    private static void lengths(String plain) {
        Matcher start = Pattern.compile("(?m)^( {4}| {8})(?! )[^\n;=]*\\([^\n]*\\) \\{$").matcher(plain);
        while (start.find()) {
            int end = plain.indexOf("\n" + start.group(1) + "}", start.end());
            int lines = plain.substring(start.start(), end).split("\n").length + 1;
            check(lines <= LINES_MOST, lines + " lines: " + start.group().trim());
        }
    }
}
