import java.io.IOException;
import java.lang.reflect.Constructor;
import java.lang.reflect.Field;
import java.lang.reflect.Method;
import java.lang.reflect.Modifier;
import java.nio.charset.StandardCharsets;
import java.nio.file.Files;
import java.nio.file.Path;
import java.util.Arrays;
import java.util.Set;
import java.util.TreeSet;
import java.util.regex.Matcher;
import java.util.regex.Pattern;

/** The face of the document, and what the rules of LANGUAGE.md let one see in the source. */
public final class LanguageTest {
    private static final String FACE = "set2 list2 listed1 person2 of2 change3 price3 pay3 go1 now1 ahead3 rich2 owes1 even0 "
        + "forged1 priceFor2 rateFor1 kindFor2 smallFor2 strike1 coins1 fits2 paid2 kinds2 market1 odds3 seed1 feed2 wipe0 "
        + "text0 hold2 as2 sheet3 write3 copy5 load1 judge1 image0 undo0 tear0 count1 status1";
    private static final String FORBIDDEN = "throw throws try catch finally synchronized assert package protected volatile "
        + "transient native strictfp Thread Random System.out System.in System.err System.exit System.getenv "
        + "System.currentTimeMillis System.nanoTime hashCode identityHashCode";
    private static final String LIBRARY = "System.arraycopy Arrays.copyOf Arrays.copyOfRange Arrays.fill";
    private static final String IMPORTS = "ArrayList List Arrays Iterator";
    private static final Check CHECK = new Check();

    public static void main(String[] args) throws IOException {
        face();
        members();
        nestedClasses();
        String path = args.length > 0 ? args[0] : "src/main/java/WinkPurses.java";
        String source = Files.readString(Path.of(path), StandardCharsets.US_ASCII);
        String code = withoutCommentsAndTexts(source);
        words(code);
        methods(code);
        CHECK.finish();
    }

    private static void face() {
        Set<String> due = new TreeSet<>(Arrays.asList(FACE.split(" ")));
        Set<String> is = new TreeSet<>();
        for (Method method : WinkPurses.class.getDeclaredMethods()) {
            if (Modifier.isPublic(method.getModifiers())) {
                is.add(method.getName() + method.getParameterCount());
                boolean ints = Arrays.stream(method.getParameterTypes()).allMatch(type -> type == int.class);
                boolean answer = method.getReturnType() == (method.getName().equals("odds") ? long.class : int.class);
                CHECK.dueTrue("the face of " + method, ints && answer && !Modifier.isStatic(method.getModifiers()));
            }
        }
        CHECK.dueTrue("the face has " + is + ", due is " + due, is.equals(due));
        int modifiers = WinkPurses.class.getModifiers();
        CHECK.dueTrue("the class is public and final", Modifier.isPublic(modifiers) && Modifier.isFinal(modifiers));
        Constructor<?>[] constructors = WinkPurses.class.getConstructors();
        CHECK.dueTrue("one constructor of nothing", constructors.length == 1 && constructors[0].getParameterCount() == 0);
    }

    private static void members() {
        Set<String> publicNames = new TreeSet<>(Arrays.asList(FACE.replaceAll("[0-9]", "").split(" ")));
        for (Method method : WinkPurses.class.getDeclaredMethods()) {
            if (method.isSynthetic()) {
                continue;
            }
            int modifiers = method.getModifiers();
            CHECK.dueTrue(method + " is public or private", Modifier.isPublic(modifiers) || Modifier.isPrivate(modifiers));
            CHECK.dueTrue(method + " bears no public name",
                Modifier.isPublic(modifiers) || !publicNames.contains(method.getName()));
        }
        for (Field field : WinkPurses.class.getDeclaredFields()) {
            CHECK.dueTrue(field + " is private", Modifier.isPrivate(field.getModifiers()));
        }
    }

    private static void nestedClasses() {
        Class<?>[] nested = WinkPurses.class.getDeclaredClasses();
        CHECK.dueTrue("at most twelve classes", nested.length < 12);
        for (Class<?> type : nested) {
            CHECK.dueTrue(type + " is static", Modifier.isStatic(type.getModifiers()));
            fieldsOf(type);
        }
        fieldsOf(WinkPurses.class);
    }

    private static void fieldsOf(Class<?> type) {
        int own = 0;
        for (Field field : type.getDeclaredFields()) {
            boolean isStatic = Modifier.isStatic(field.getModifiers());
            own += isStatic ? 0 : 1;
            CHECK.dueTrue(field + " is final if it is static", !isStatic || Modifier.isFinal(field.getModifiers()));
        }
        CHECK.dueTrue(type + " has at most twenty fields", own <= 20);
    }

    private static String withoutCommentsAndTexts(String source) {
        return source.replaceAll("(?s)/\\*.*?\\*/", " ").replaceAll("//[^\n]*", " ").replaceAll("\"[^\"\n]*\"", "\"\"");
    }

    private static void words(String code) {
        for (String word : FORBIDDEN.split(" ")) {
            boolean there = Pattern.compile("(?<![A-Za-z])" + Pattern.quote(word) + "\\b").matcher(code).find();
            CHECK.dueTrue("'" + word + "' doesn't stand in the source", !there);
        }
        String withoutCases = code.replaceAll("(case\\s[^;{}]*?|default\\s*)->", " ");
        CHECK.dueTrue("no lambda", !withoutCases.contains("->"));
        CHECK.dueTrue("no method reference", !code.contains("::"));
        library(code);
    }

    /** Rule 4: of Math, Integer and Long all but what ends in Exact, of others what is told by name. */
    private static void library(String code) {
        Set<String> known = new TreeSet<>(Arrays.asList(LIBRARY.split(" ")));
        Matcher library = Pattern.compile("\\b(Math|Integer|Long|Arrays|System)\\.(\\w+)").matcher(code);
        while (library.find()) {
            boolean numbers = library.group().matches("(Math|Integer|Long)\\..*") && !library.group().endsWith("Exact");
            CHECK.dueTrue(library.group() + " is among the known ones", numbers || known.contains(library.group()));
        }
        Set<String> imports = new TreeSet<>(Arrays.asList(IMPORTS.split(" ")));
        Matcher line = Pattern.compile("\\bimport\\s+([\\w.*]+)\\s*;").matcher(code);
        while (line.find()) {
            String name = line.group(1);
            CHECK.dueTrue("import of " + name, name.startsWith("java.util.") && imports.contains(name.substring(10)));
        }
    }

    private static void methods(String code) {
        Matcher head = Pattern.compile("(?m)^( +)(?:[a-z]+ )*[A-Za-z\\[\\]]+ ?\\w*\\(([^)]*)\\) \\{$").matcher(code);
        int found = 0;
        while (head.find()) {
            if (head.group().matches("(?s).*\\b(if|for|while|switch|else)\\b.*")) {
                continue;
            }
            found++;
            String name = head.group().trim();
            int end = code.indexOf("\n" + head.group(1) + "}", head.end());
            long lines = code.substring(head.start(), Math.max(end, head.start())).lines().count();
            CHECK.dueTrue(name + " ends", end > 0);
            CHECK.dueTrue(name + " has at most sixty lines", lines <= 60);
            CHECK.dueTrue(name + " has at most seven parameters", head.group(2).split(",").length <= 7);
        }
        CHECK.dueTrue("methods were found", found > 0);
    }
}
