import java.io.IOException;
import java.lang.reflect.Constructor;
import java.lang.reflect.Field;
import java.lang.reflect.Method;
import java.lang.reflect.Modifier;
import java.nio.file.Files;
import java.nio.file.Path;
import java.util.ArrayList;
import java.util.Arrays;
import java.util.List;
import java.util.Set;
import java.util.TreeSet;
import java.util.regex.Matcher;
import java.util.regex.Pattern;

/** The face as the document tells it, and what of LANGUAGE.md can be seen without a look at what the code means. */
public final class RulesTest {
    private static final Due due = new Due();

    public static void main(String[] args) throws IOException {
        String doc = Files.readString(Path.of("../shared/DOC.md"));
        face(doc);
        members();
        source(Files.readString(Path.of("src/main/java/SnowReign.java")));
        due.close();
    }

    private static void face(String doc) {
        Set<String> want = new TreeSet<>();
        Matcher told = Pattern.compile("    public (int|long) (\\w+)\\((.*)\\);").matcher(doc);
        while (told.find()) {
            int number = told.group(3).isEmpty() ? 0 : told.group(3).split(",").length;
            want.add(told.group(1) + " " + told.group(2) + " " + number);
        }
        due.is("methods that the document tells", want.size(), 43);
        Set<String> got = new TreeSet<>();
        for (Method m : SnowReign.class.getDeclaredMethods()) {
            if (!Modifier.isPrivate(m.getModifiers())) {
                got.add(m.getReturnType() + " " + m.getName() + " " + m.getParameterCount());
                due.isTrue(m.getName() + " takes ints", Arrays.stream(m.getParameterTypes()).allMatch(t -> t == int.class));
                due.isTrue(m.getName() + " is public, of an object", Modifier.isPublic(m.getModifiers()) && !Modifier.isStatic(m.getModifiers()));
            }
        }
        due.isTrue("the face is as told: " + got, got.equals(want));
        due.isTrue("public and final", Modifier.isPublic(SnowReign.class.getModifiers()) && Modifier.isFinal(SnowReign.class.getModifiers()));
        Constructor<?>[] made = SnowReign.class.getDeclaredConstructors();
        due.isTrue("one constructor", made.length == 1 && made[0].getParameterCount() == 0 && Modifier.isPublic(made[0].getModifiers()));
        Set<String> open = new TreeSet<>();
        for (Field f : SnowReign.class.getDeclaredFields()) {
            if (!Modifier.isPrivate(f.getModifiers())) {
                open.add(f.getName());
            }
        }
        due.isTrue("the constants are as told: " + open, open.equals(Set.of("BAD", "STATE", "FULL", "NONE")));
        due.is("BAD", SnowReign.BAD, -1);
        due.is("STATE", SnowReign.STATE, -2);
        due.is("FULL", SnowReign.FULL, -3);
        due.is("NONE", SnowReign.NONE, -4);
    }

    private static void members() {
        Set<String> open = Pair.face().keySet();
        List<Class<?>> all = new ArrayList<>(List.of(SnowReign.class.getDeclaredClasses()));
        due.isTrue("at most twelve classes", all.size() < 12);
        for (Class<?> c : all) {
            due.isTrue(c + " is static", Modifier.isStatic(c.getModifiers()));
            due.isTrue(c + " is not public", !Modifier.isPublic(c.getModifiers()) && !Modifier.isProtected(c.getModifiers()));
        }
        all.add(SnowReign.class);
        for (Class<?> c : all) {
            int fields = 0;
            for (Field f : c.getDeclaredFields()) {
                boolean isStatic = Modifier.isStatic(f.getModifiers());
                due.isTrue(f + " is final, if static", !isStatic || Modifier.isFinal(f.getModifiers()));
                fields += isStatic ? 0 : 1;
            }
            due.isTrue(c + " has at most twenty fields", fields <= 20);
            for (Method m : c.getDeclaredMethods()) {
                due.isTrue(m + " takes at most seven", m.getParameterCount() <= 7);
                due.isTrue(m + " bears a name of its own", Modifier.isPublic(m.getModifiers()) || !open.contains(m.getName()));
            }
        }
    }

    private static void source(String whole) {
        String code = whole.replaceAll("(?s)/\\*.*?\\*/", "").replaceAll("//[^\n]*", "").replaceAll("\"[^\"\n]*\"", "\"\"");
        for (String word : List.of("throw", "throws", "try", "catch", "synchronized", "assert", "package", "Object", "Random", "Thread",
                "float", "double", "hashCode", "toString", "protected", "native", "volatile")) {
            due.isTrue("no " + word, !Pattern.compile("\\b" + word + "\\b").matcher(code).find());
        }
        due.isTrue("no lambda, no method reference", !code.contains("->") && !code.contains("::"));
        due.isTrue("nothing Exact", !code.contains("Exact("));
        due.isTrue("no static block", !Pattern.compile("\\bstatic\\s*\\{").matcher(code).find());
        due.isTrue("no annotation", !code.contains("@"));
        Matcher imports = Pattern.compile("import ([\\w.]+);").matcher(code);
        while (imports.find()) {
            due.isTrue("import " + imports.group(1), Set.of("java.util.Arrays", "java.util.ArrayList", "java.util.List").contains(imports.group(1)));
        }
        Matcher library = Pattern.compile("\\b(Math|Arrays|System|Integer|Long)\\.(\\w+)").matcher(code);
        while (library.find()) {
            due.isTrue(library.group(), Set.of("max", "min", "abs", "bitCount", "fill", "arraycopy").contains(library.group(2)));
        }
        due.isTrue("signs 1 to 127 alone", whole.chars().allMatch(c -> c >= 1 && c <= 127));
        due.isTrue("rule 12: a constructor hands out nothing of what it makes", !Pattern.compile("\\bnew [A-Z]\\w*\\([^)]").matcher(code).find());
        methods(code);
    }

    /** A method begins with a line that opens a brace behind a parameter list, and ends with the brace of the same column. */
    private static void methods(String code) {
        String[] lines = code.split("\n");
        Pattern head = Pattern.compile("^( {4}| {8})(?:public |private |static |final )*[\\w\\[\\]]+(?: (\\w+))?\\(.*\\) \\{$");
        int found = 0;
        for (int from = 0; from < lines.length; from++) {
            Matcher begun = head.matcher(lines[from]);
            if (begun.matches()) {
                int to = from;
                while (to < lines.length && !lines[to].equals(begun.group(1) + "}")) {
                    to++;
                }
                found++;
                due.isTrue("rule 11: at most sixty lines: " + lines[from].trim(), to - from < 60);
                String body = String.join("\n", List.of(lines).subList(from + 1, to));
                boolean callsItself = begun.group(2) != null && Pattern.compile("(?<![.\\w])" + begun.group(2) + "\\(").matcher(body).find();
                due.isTrue("rule 8: a method that calls itself is private static: " + lines[from].trim(),
                    !callsItself || lines[from].contains("private static "));
            }
        }
        due.isTrue("the methods were found", found > 80);
    }
}
