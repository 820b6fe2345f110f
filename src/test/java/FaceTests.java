import java.io.IOException;
import java.lang.reflect.Constructor;
import java.lang.reflect.Field;
import java.lang.reflect.Method;
import java.lang.reflect.Modifier;
import java.nio.file.Files;
import java.nio.file.Path;
import java.util.Arrays;
import java.util.TreeSet;
import java.util.regex.Matcher;
import java.util.regex.Pattern;

/** The public face is the document's and no more; the source has none of the words that LANGUAGE.md rules out. */
public final class FaceTests {
    private static final String[] METHODS = {
        "aheads(1)", "back(1)", "clear(0)", "corrects(2)", "cost(0)", "count(1)", "drifts(2)", "error(2)",
        "forget(0)", "keep(1)", "last(1)", "look(0)", "reel(2)", "sees(2)", "spins(0)", "starts(0)",
        "steady(0)", "tells(0)", "ticks(1)", "type(1)", "undo(0)", "unit(2)", "which(0)"};
    private static final String[] CONSTANTS = {
        "BAD=-1", "FULL=-3", "NO=-1000000", "NONE=-9", "NOT=-2000000", "STATE=-2"};
    private static final String[] RULED_OUT = {
        "\\bthrows?\\b", "\\btry\\b", "\\bcatch\\b", "\\bsynchronized\\b", "\\bassert\\b", "->", "::",
        "Exact\\b", "\\bjava\\.(?!util\\.Arrays;)", "\\bSystem\\.(?!arraycopy)", "\\bThread\\b", "\\bRandom\\b",
        "\\bpackage\\b", "\\bstatic\\s*\\{", "\\bhashCode\\b", "\\btoString\\b", "\\bMath\\.random\\b"};
    private static int wrong = 0;

    public static void main(String[] args) throws Exception {
        face();
        source(Path.of(args.length > 0 ? args[0] : "."));
        System.out.println(wrong == 0 ? "the face is the document's" : wrong + " faults of the face");
        if (wrong != 0) {
            System.exit(1);
        }
    }

    private static void hold(String what, boolean holds) {
        if (!holds) {
            wrong++;
            System.out.println(what);
        }
    }

    private static void face() throws Exception {
        Class<?> c = SplicedWeb.class;
        hold("the class is public and final", Modifier.isPublic(c.getModifiers()) && Modifier.isFinal(c.getModifiers()));
        TreeSet<String> methods = new TreeSet<>();
        TreeSet<String> privates = new TreeSet<>();
        for (Method m : c.getDeclaredMethods()) {
            if (Modifier.isPrivate(m.getModifiers())) {
                privates.add(m.getName());
                continue;
            }
            methods.add(m.getName() + "(" + m.getParameterCount() + ")");
            boolean isPlain = Modifier.isPublic(m.getModifiers()) && !Modifier.isStatic(m.getModifiers())
                && m.getReturnType() == int.class;
            for (Class<?> p : m.getParameterTypes()) {
                isPlain &= p == int.class;
            }
            hold("public, of ints: " + m, isPlain);
        }
        hold("methods: " + methods, methods.equals(new TreeSet<>(Arrays.asList(METHODS))));
        for (String name : METHODS) {
            hold("no private method is named " + name, !privates.contains(name.substring(0, name.indexOf('('))));
        }
        TreeSet<String> constants = new TreeSet<>();
        for (Field f : c.getDeclaredFields()) {
            if (!Modifier.isPrivate(f.getModifiers())) {
                constants.add(f.getName() + "=" + f.getInt(null));
                hold("a constant: " + f, Modifier.isStatic(f.getModifiers()) && Modifier.isFinal(f.getModifiers()));
            }
            hold("static is final: " + f, !Modifier.isStatic(f.getModifiers()) || Modifier.isFinal(f.getModifiers()));
        }
        hold("constants: " + constants, constants.equals(new TreeSet<>(Arrays.asList(CONSTANTS))));
        Constructor<?>[] all = c.getDeclaredConstructors();
        hold("one public constructor", all.length == 1 && Modifier.isPublic(all[0].getModifiers())
            && all[0].getParameterCount() == 0);
        for (Class<?> inside : c.getDeclaredClasses()) {
            hold("static: " + inside, Modifier.isStatic(inside.getModifiers()));
        }
    }

    private static void source(Path root) throws IOException {
        String text = Files.readString(root.resolve("src/main/java/SplicedWeb.java"));
        String code = text.replaceAll("(?s)/\\*.*?\\*/", "").replaceAll("//[^\n]*", "");
        for (String word : RULED_OUT) {
            Matcher m = Pattern.compile(word).matcher(code);
            hold("the source has " + word, !m.find());
        }
        hold("signs of the source are 1 to 127", text.chars().allMatch(sign -> sign >= 1 && sign <= 127));
    }
}
