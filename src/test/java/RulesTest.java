import java.io.IOException;
import java.lang.reflect.Constructor;
import java.lang.reflect.Field;
import java.lang.reflect.Method;
import java.lang.reflect.Modifier;
import java.nio.file.Files;
import java.nio.file.Path;
import java.util.ArrayList;
import java.util.HashSet;
import java.util.List;
import java.util.Set;
import java.util.regex.Matcher;
import java.util.regex.Pattern;

/** The rules of LANGUAGE.md that can be read off the source and the compiled classes, and the face. */
public final class RulesTest {
    private static final Due D = new Due();
    private static final String FACE = "act(III) bore(III) bound(II) cart(III) changed(II) count(I) element(II) "
            + "engine(II) feed(II) flow(II) goes(III) height(II) helps(III) judge(III) keep(II) lasts(I) laying(II) "
            + "lifts(II) load(I) loses(II) minutes(II) most(III) of(II) old(I) part(IIII) parts(IIII) point(I) "
            + "pressure(III) put(IIJ) redo() row(III) share(IIII) shift(IIIII) soon(III) table() taken(II) thing(II) "
            + "trace(I) turn(II) undo() unload() unthing() way(III) worth(III)";

    public static void main(String[] args) throws IOException {
        face();
        constants();
        membersOfTheClass();
        classesInside();
        source(stripped(Files.readString(Path.of("src/main/java/OverHill.java"))));
        D.end();
    }

    private static void face() {
        Set<String> due = new HashSet<>(List.of(FACE.split(" ")));
        int found = 0;
        for (Method m : OverHill.class.getDeclaredMethods()) {
            if (!Modifier.isPublic(m.getModifiers())) {
                continue;
            }
            StringBuilder told = new StringBuilder(m.getName()).append('(');
            for (Class<?> type : m.getParameterTypes()) {
                told.append(type == int.class ? "I" : type == long.class ? "J" : "?");
            }
            D.holds("public: " + told, due.contains(told.append(')').toString()));
            D.holds("its type", m.getReturnType() == (m.getName().equals("element") ? long.class : int.class));
            found++;
        }
        D.due("public methods", found, due.size());
        D.holds("public and final", Modifier.isPublic(OverHill.class.getModifiers())
                && Modifier.isFinal(OverHill.class.getModifiers()));
        Constructor<?>[] made = OverHill.class.getDeclaredConstructors();
        D.holds("one public constructor", made.length == 1 && Modifier.isPublic(made[0].getModifiers())
                && made[0].getParameterCount() == 0);
    }

    private static void constants() {
        String[] names = {"BAD", "NOT", "FULL", "BIG", "STATE", "VOID"};
        int[] values = {OverHill.BAD, OverHill.NOT, OverHill.FULL, OverHill.BIG, OverHill.STATE, OverHill.VOID};
        int[] due = {-1, -2, -3, -4, -5, -2000000000};
        for (int i = 0; i < names.length; i++) {
            D.due(names[i], values[i], due[i]);
        }
        Set<String> publics = new HashSet<>();
        for (Field f : OverHill.class.getDeclaredFields()) {
            if (!Modifier.isPrivate(f.getModifiers())) {
                publics.add(f.getName());
            }
        }
        D.holds("no other constants: " + publics, publics.equals(Set.of(names)));
    }

    private static void membersOfTheClass() {
        Set<String> publics = new HashSet<>();
        for (Method m : OverHill.class.getDeclaredMethods()) {
            if (Modifier.isPublic(m.getModifiers())) {
                publics.add(m.getName());
            } else {
                D.holds(m + " is private", Modifier.isPrivate(m.getModifiers()));
            }
        }
        for (Class<?> c : all()) {
            for (Method m : c.getDeclaredMethods()) {
                boolean face = c == OverHill.class && Modifier.isPublic(m.getModifiers());
                D.holds(c + ": " + m.getName() + " is no name of the face", face || !publics.contains(m.getName()));
                D.holds(m + " has at most seven parameters", m.getParameterCount() <= 7);
            }
        }
    }

    private static List<Class<?>> all() {
        List<Class<?>> all = new ArrayList<>(List.of(OverHill.class.getDeclaredClasses()));
        all.add(OverHill.class);
        return all;
    }

    private static void classesInside() {
        D.holds("at most twelve classes", all().size() <= 12);
        for (Class<?> c : all()) {
            D.holds(c + " is static", c == OverHill.class || Modifier.isStatic(c.getModifiers()));
            D.holds(c + " has none inside", c == OverHill.class || c.getDeclaredClasses().length == 0);
            int fields = 0;
            for (Field f : c.getDeclaredFields()) {
                boolean isStatic = Modifier.isStatic(f.getModifiers());
                D.holds(f + " is final where it is static", !isStatic || Modifier.isFinal(f.getModifiers()));
                fields += isStatic ? 0 : 1;
            }
            D.holds(c + " has at most twenty fields", fields <= 20);
        }
    }

    /** The source without comments and without what stands in quotes. */
    private static String stripped(String source) {
        return source.replaceAll("(?s)/\\*.*?\\*/", "").replaceAll("//[^\n]*", "").replaceAll("'\\\\?.'", "' '");
    }

    private static void source(String source) {
        String[] words = {"throw", "throws", "try", "catch", "finally", "synchronized", "assert", "import", "package",
            "native", "volatile", "transient", "instanceof", "goto", "float", "double", "Exception", "Object", "String",
            "hashCode", "equals", "toString", "Random", "Thread", "nanoTime", "currentTimeMillis", "while"};
        for (String word : words) {
            D.holds("no " + word, !Pattern.compile("\\b" + word + "\\b").matcher(source).find()
                    || word.equals("while") && countedWhiles(source));
        }
        D.holds("no lambda, no method reference", !source.contains("->") && !source.contains("::"));
        D.holds("no text", source.indexOf('"') < 0);
        Set<String> library = new HashSet<>(List.of("System.arraycopy", "Math.max", "Math.min", "Integer.bitCount"));
        Matcher used = Pattern.compile("\\b(System|Math|Integer|Long|Arrays|Character)\\.\\w+").matcher(source);
        while (used.find()) {
            D.holds("library: " + used.group(), library.contains(used.group()));
        }
        longMethods(source);
    }

    /** Each while stands with a counter against a bound. */
    private static boolean countedWhiles(String source) {
        Matcher whiles = Pattern.compile("\\bwhile \\(([^\n]*)").matcher(source);
        boolean counted = true;
        while (whiles.find()) {
            counted &= whiles.group(1).contains("< n");
        }
        return counted;
    }

    private static void longMethods(String source) {
        String[] lines = source.split("\n");
        int began = 0;
        for (int i = 0; i < lines.length; i++) {
            if (lines[i].matches("( {4}| {8})\\S.*\\) \\{")) {
                began = i;
            }
            if (lines[i].matches("( {4}| {8})\\}")) {
                D.holds("a method of at most sixty lines from line " + (began + 1), i - began <= 60 || began == 0);
                began = 0;
            }
            D.holds("line " + (i + 1) + " has at most 120 characters", lines[i].length() <= 120);
        }
    }
}
