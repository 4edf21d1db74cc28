import java.lang.reflect.Constructor;
import java.lang.reflect.Field;
import java.lang.reflect.Method;
import java.lang.reflect.Modifier;
import java.nio.file.Files;
import java.nio.file.Path;
import java.util.ArrayList;
import java.util.Collections;
import java.util.HashSet;
import java.util.List;
import java.util.Set;
import java.util.regex.Matcher;
import java.util.regex.Pattern;

/** The face is the document's, and the source keeps to the rules of LANGUAGE.md that can be seen from outside. */
final class FaceTest {
    private static final Path SOURCE = Path.of("src/main/java/LoosePlug.java");
    private static final Path DOCUMENT = Path.of("../shared/DOC.md");

    public static void main(String[] args) throws Exception {
        face();
        classesInside();
        staticFields();
        words();
        Check.end();
    }

    /** Each method as "long jump(int,int)". */
    private static String shape(Method m) {
        List<String> types = new ArrayList<>();
        for (Class<?> type : m.getParameterTypes()) {
            types.add(type.getName());
        }
        return m.getReturnType().getName() + " " + m.getName() + "(" + String.join(",", types) + ")";
    }

    private static void face() throws Exception {
        List<String> due = new ArrayList<>();
        String document = Files.readString(DOCUMENT);
        String block = document.substring(document.indexOf("```java"), document.indexOf("## Terms"));
        Matcher line = Pattern.compile("public (int|long) (\\w+)\\((.*)\\);").matcher(block);
        while (line.find()) {
            due.add(line.group(1) + " " + line.group(2) + "(" + line.group(3).replaceAll(" \\w+(,|$)", "$1").replace(", ", ",") + ")");
        }
        List<String> got = new ArrayList<>();
        Set<String> names = new HashSet<>();
        for (Method m : LoosePlug.class.getDeclaredMethods()) {
            if (Modifier.isPublic(m.getModifiers())) {
                got.add(shape(m));
                names.add(m.getName());
            }
        }
        Collections.sort(due);
        Collections.sort(got);
        Check.due("methods of the document", due.size(), 44);
        Check.holds("the face is " + got + ", due is " + due, got.equals(due));
        List<Class<?>> all = new ArrayList<>(List.of(LoosePlug.class.getDeclaredClasses()));
        all.add(LoosePlug.class);
        for (Class<?> c : all) {
            for (Method m : c.getDeclaredMethods()) {
                boolean own = c == LoosePlug.class && Modifier.isPublic(m.getModifiers());
                Check.holds(m + " bears a public name", own || !names.contains(m.getName()));
                Check.holds(m + " takes at most seven", m.getParameterCount() <= 7);
                Check.holds(m + " of the class is public or private", c != LoosePlug.class
                        || Modifier.isPublic(m.getModifiers()) || Modifier.isPrivate(m.getModifiers()));
            }
        }
        Constructor<?>[] makers = LoosePlug.class.getDeclaredConstructors();
        Check.due("constructors", makers.length, 1);
        Check.holds("the constructor", Modifier.isPublic(makers[0].getModifiers()) && makers[0].getParameterCount() == 0);
        Check.holds("public and final", Modifier.isFinal(LoosePlug.class.getModifiers()));
        constants();
    }

    private static void constants() throws Exception {
        String[] names = {"BAD", "FULL", "NONE", "STATE", "NO"};
        int[] values = {-1, -2, -3, -4, Integer.MIN_VALUE};
        for (int k = 0; k < names.length; k++) {
            Field field = LoosePlug.class.getDeclaredField(names[k]);
            Check.due(names[k], field.getInt(null), values[k]);
            Check.due(names[k] + " is public, static, final", field.getModifiers(), Modifier.PUBLIC | Modifier.STATIC | Modifier.FINAL);
        }
        for (Field field : LoosePlug.class.getDeclaredFields()) {
            Check.holds(field + " is private", Modifier.isPrivate(field.getModifiers()) || List.of(names).contains(field.getName()));
        }
    }

    private static void classesInside() {
        Class<?>[] inside = LoosePlug.class.getDeclaredClasses();
        Check.holds("at most twelve classes", inside.length + 1 <= 12);
        for (Class<?> c : inside) {
            Check.holds(c + " is static", Modifier.isStatic(c.getModifiers()));
            Check.holds(c + " is not public", !Modifier.isPublic(c.getModifiers()) && !Modifier.isProtected(c.getModifiers()));
        }
    }

    private static void staticFields() {
        List<Class<?>> all = new ArrayList<>(List.of(LoosePlug.class.getDeclaredClasses()));
        all.add(LoosePlug.class);
        for (Class<?> c : all) {
            int own = 0;
            for (Field field : c.getDeclaredFields()) {
                boolean shared = Modifier.isStatic(field.getModifiers());
                own += shared ? 0 : 1;
                Check.holds(field + " is final", !shared || Modifier.isFinal(field.getModifiers()) && field.getType() == int.class);
            }
            Check.holds(c + " has at most twenty fields", own <= 20);
        }
    }

    private static String withoutTexts() throws Exception {
        String source = Files.readString(SOURCE);
        source = source.replaceAll("(?s)/\\*.*?\\*/", "").replaceAll("//[^\n]*", "");
        return source.replaceAll("\"[^\"\n]*\"", "@").replaceAll("'[^'\n]*'", "0");
    }

    private static void words() throws Exception {
        String code = withoutTexts();
        String[] away = {"throw", "throws", "try", "catch", "finally", "synchronized", "assert", "hashCode", "toString", "System",
            "Random", "Thread", "Object", "protected", "package", "null", "float", "double", "var", "instanceof"};
        for (String word : away) {
            Check.holds("no '" + word + "' in the source", !Pattern.compile("\\b" + word + "\\b").matcher(code).find());
        }
        Check.holds("no lambda", !code.contains("->") && !code.contains("::"));
        Check.holds("no texts joined by +", !code.contains("@ +") && !code.contains("+ @"));
        Matcher imports = Pattern.compile("import ([\\w.]+);").matcher(code);
        while (imports.find()) {
            Check.holds("import of " + imports.group(1), imports.group(1).equals("java.util.Arrays"));
        }
        Matcher calls = Pattern.compile("\\b(Math|Arrays|Integer|Long|String)\\.(\\w+)").matcher(code);
        List<String> allowed = List.of("abs", "min", "max", "copyOf", "fill");
        while (calls.find()) {
            Check.holds("library: " + calls.group(), allowed.contains(calls.group(2)));
        }
        Check.holds("plain signs alone", Files.readString(SOURCE).chars().allMatch(c -> c < 128));
    }
}
