import java.io.IOException;
import java.lang.reflect.Constructor;
import java.lang.reflect.Field;
import java.lang.reflect.Method;
import java.lang.reflect.Modifier;
import java.nio.file.Files;
import java.nio.file.Path;
import java.util.ArrayList;
import java.util.Arrays;
import java.util.List;
import java.util.Set;
import java.util.TreeSet;

/** The face as the document writes it, and what LANGUAGE.md keeps out of the source. */
public final class FormTest {
    private static final String[] FACE = {
        "int letter(int)", "int blank()", "int fault()", "int council()", "int about(int,int)", "int as(int,int)",
        "int nose(int,int)", "int bribe(int,int)", "int draught(int)", "int pepper(boolean)", "int hour(int)",
        "int laws()", "long king(int,int)", "long holds(int,int,int)", "int window(int)", "int saying(int,int)",
        "int statutes(int,int)", "int book(int)", "int forget()", "long fits()", "long sneezed(int,int)",
        "int years(int,int,int)", "int image()", "int restore()", "int count(int)", "long digest()",
    };
    private static final String[] CONSTANTS = {"NONE", "UNKNOWN", "OUTSIDE", "STATE", "FULL"};
    private static final String[] KEPT_OUT = {
        "throw", "throws", "try", "catch", "finally", "synchronized", "assert", "->", "::", "System.out", "System.nano",
        "System.current", "Random", "Thread", "@Override", "equals", "hashCode", "toString", "Exact",
    };

    private static int wrong = 0;

    public static void main(String[] args) throws IOException {
        face();
        members();
        ownMethods();
        sizes();
        source(Files.readString(Path.of("src/main/java/SneezeKing.java")));
        System.out.println(wrong == 0 ? "the form is kept" : wrong + " faults of form");
        if (wrong != 0) {
            System.exit(1);
        }
    }

    private static void same(String what, Object got, Object want) {
        if (!got.equals(want)) {
            wrong++;
            System.out.println(what + ": " + got + ", due is " + want);
        }
    }

    private static void face() {
        Set<String> got = new TreeSet<>();
        for (Method method : SneezeKing.class.getDeclaredMethods()) {
            if (!Modifier.isPrivate(method.getModifiers())) {
                same("modifiers of " + method.getName(), Modifier.toString(method.getModifiers()), "public");
                String whole = method.toGenericString();
                got.add(whole.substring("public ".length()).replace("SneezeKing.", ""));
            }
        }
        same("methods", got, new TreeSet<>(Arrays.asList(FACE)));
        Constructor<?>[] made = SneezeKing.class.getDeclaredConstructors();
        same("constructors", made.length, 1);
        same("the constructor", made[0].toGenericString(), "public SneezeKing()");
        same("the class", Modifier.toString(SneezeKing.class.getModifiers()), "public final");
    }

    private static void members() {
        Set<String> shown = new TreeSet<>();
        for (Field field : SneezeKing.class.getDeclaredFields()) {
            if (!Modifier.isPrivate(field.getModifiers())) {
                same("modifiers of " + field.getName(), Modifier.toString(field.getModifiers()), "public static final");
                shown.add(field.getName());
            }
        }
        same("constants", shown, new TreeSet<>(Arrays.asList(CONSTANTS)));
        for (Class<?> inner : SneezeKing.class.getDeclaredClasses()) {
            same("static " + inner.getName(), Modifier.isStatic(inner.getModifiers()), true);
            same("not public " + inner.getName(), Modifier.isPublic(inner.getModifiers()), false);
        }
    }

    private static List<Class<?>> classes() {
        List<Class<?>> all = new ArrayList<>(Arrays.asList(SneezeKing.class.getDeclaredClasses()));
        all.add(SneezeKing.class);
        return all;
    }

    private static void ownMethods() {
        Set<String> faceNames = new TreeSet<>();
        for (Method method : SneezeKing.class.getMethods()) {
            faceNames.add(method.getName());
        }
        for (Class<?> one : classes()) {
            for (Method method : one.getDeclaredMethods()) {
                boolean own = Modifier.isPrivate(method.getModifiers());
                String name = one.getName() + "." + method.getName();
                same("a private method with a name of the face, " + name, own && faceNames.contains(method.getName()), false);
                same("more than seven parameters, " + name, method.getParameterCount() > 7, false);
            }
        }
    }

    private static void sizes() {
        same("more than twelve classes", classes().size() > 12, false);
        for (Class<?> one : classes()) {
            int fields = 0;
            for (Field field : one.getDeclaredFields()) {
                boolean fixed = Modifier.isStatic(field.getModifiers());
                fields += fixed ? 0 : 1;
                same("a static field that is not final, " + field, fixed && !Modifier.isFinal(field.getModifiers()), false);
            }
            same("more than twenty fields in " + one.getName(), fields > 20, false);
        }
    }

    private static void source(String text) {
        String code = text.replaceAll("(?s)/\\*.*?\\*/", " ").replaceAll("//[^\n]*", " ");
        for (String word : KEPT_OUT) {
            boolean letters = word.matches("\\w+");
            String sought = letters ? "(?s).*\\b" + word + "\\b.*" : "(?s).*\\Q" + word + "\\E.*";
            same("uses " + word, code.matches(sought), false);
        }
        same("characters above 126", text.chars().anyMatch(sign -> sign > 126), false);
        Set<String> imports = new TreeSet<>();
        for (String line : code.split("\n")) {
            if (line.startsWith("import ")) {
                imports.add(line);
            }
        }
        same("imports", imports, Set.of("import java.util.Arrays;"));
    }
}
