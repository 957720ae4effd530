import java.io.IOException;
import java.lang.reflect.Constructor;
import java.lang.reflect.Field;
import java.lang.reflect.Method;
import java.lang.reflect.Modifier;
import java.nio.file.Files;
import java.nio.file.Path;
import java.util.HashSet;
import java.util.Set;
import java.util.TreeSet;
import java.util.regex.Matcher;
import java.util.regex.Pattern;

/** The face is the document's, and the source keeps to those rules of LANGUAGE.md that can be seen from outside. */
public final class FaceTest {
    private static final String FACE = """
        int feed(int,int,int,int,int); int level(int); int fault(); int where(); int danger(int,int); int maker(int,int);
        int good(int,int); int strikes(int); int keepsOut(int,int); int worth(); int strikesNext(int); int worthIn(int);
        int lost(int); int lostIn(int); int lostBy(int); int wornIn(int); int lastsIn(int,int); int keptOut(int);
        int busiest(int); int worst(int); int still(); int lay(int); int layAt(int,int); int worthIf(int,int,int);
        int nest(int); int besides(int,int); int vain(int); int open(); int fits(); int fitAt(int); int could();
        int surely(); int ask(); int askLeaves(); int judge(); long weaves(int,int); long weavesFrom(int,int);
        int strokes(int,int); int holds(int,boolean,boolean,boolean); int rests(int); int rest(int);
        long odds(int,int,boolean); long mean(int,int,boolean); int drawn(int,int); int slips(int); int year();
        int put(int,int); int take(int); int think(int,int); boolean mend(int); boolean undo(); int image();
        boolean back(int); int led(int); int size(int); int trouble();""";

    public static void main(String[] args) throws IOException {
        checkMethods();
        checkOthers();
        checkSource();
        Check.end("FaceTest");
    }

    private static void checkMethods() {
        Set<String> due = new TreeSet<>();
        for (String one : FACE.replace("\n", " ").split(";")) {
            if (!one.isBlank()) {
                due.add(one.trim());
            }
        }
        Set<String> got = new TreeSet<>();
        Set<String> names = new HashSet<>();
        for (Method m : BasketKeep.class.getDeclaredMethods()) {
            if (Modifier.isPublic(m.getModifiers())) {
                got.add(shown(m));
                names.add(m.getName());
            }
        }
        Check.same("public methods " + got, got.equals(due), true);
        for (Method m : BasketKeep.class.getDeclaredMethods()) {
            boolean isPublic = Modifier.isPublic(m.getModifiers());
            Check.same("hidden method " + m, isPublic || Modifier.isPrivate(m.getModifiers()), true);
            Check.same("hidden method's name " + m, isPublic || !names.contains(m.getName()), true);
        }
        for (Class<?> inside : BasketKeep.class.getDeclaredClasses()) {
            Check.same("static " + inside, Modifier.isStatic(inside.getModifiers()), true);
            Check.same("not public " + inside, Modifier.isPublic(inside.getModifiers()), false);
            for (Method m : inside.getDeclaredMethods()) {
                Check.same("method's name " + m, names.contains(m.getName()), false);
                Check.same("seven parameters at most " + m, m.getParameterCount() <= 7, true);
            }
        }
    }

    private static String shown(Method m) {
        StringBuilder text = new StringBuilder(m.getReturnType() + " " + m.getName() + "(");
        String between = "";
        for (Class<?> type : m.getParameterTypes()) {
            text.append(between).append(type);
            between = ",";
        }
        return text.append(')').toString();
    }

    private static void checkOthers() {
        Check.same("final class", Modifier.isFinal(BasketKeep.class.getModifiers()), true);
        Check.same("NONE", BasketKeep.NONE, -1);
        for (Field f : BasketKeep.class.getDeclaredFields()) {
            boolean isNone = f.getName().equals("NONE");
            Check.same("field " + f, isNone ? Modifier.isPublic(f.getModifiers()) : Modifier.isPrivate(f.getModifiers()), true);
        }
        Constructor<?>[] makers = BasketKeep.class.getDeclaredConstructors();
        Check.same("constructors", makers.length, 1);
        Check.same("public constructor", Modifier.isPublic(makers[0].getModifiers()), true);
        Check.same("classes", BasketKeep.class.getDeclaredClasses().length <= 11, true);
        try {
            Method led = BasketKeep.class.getMethod("led", int.class);
            Check.same("led's throws", led.getExceptionTypes().length, 1);
        } catch (NoSuchMethodException e) {
            Check.same("led is there", false, true);
        }
    }

    private static void checkSource() throws IOException {
        Path path = Path.of(System.getProperty("root", "."), "src", "main", "java", "BasketKeep.java");
        String source = Files.readString(path);
        String code = source.replaceAll("(?s)/\\*.*?\\*/", " ").replaceAll("//[^\n]*", " ");
        for (String word : new String[] {"->", "::", "try", "catch", "finally", "synchronized", "assert", "static {",
                "Exact(", "System.out", "System.nano", "System.current", "Random", "Thread", "package", "double", "float"}) {
            Check.same("'" + word + "' in the source", code.contains(word), false);
        }
        Matcher imports = Pattern.compile("import ([^;]*);").matcher(code);
        while (imports.find()) {
            String name = imports.group(1);
            Check.same("import " + name, name.equals("java.util.Arrays") || name.equals("java.util.NoSuchElementException"), true);
        }
        Matcher thrown = Pattern.compile("throw\\s+([^;]*);").matcher(code);
        int count = 0;
        while (thrown.find()) {
            count++;
            Check.same("throw " + thrown.group(1), thrown.group(1).equals("new NoSuchElementException()"), true);
        }
        Check.same("throws in the source", count, 1);
        checkRoom(code);
    }

    /** All calls live in one room: rows are made with the object that has them, and by no call. */
    private static void checkRoom(String code) {
        for (String line : code.split("\n")) {
            if (line.matches(".*\\bnew\\b.*")) {
                boolean ofField = line.matches("\\s*(private )?final [A-Za-z\\[\\]]+ [A-Za-z]+ = new [^;]*;\\s*");
                boolean thrown = line.matches("\\s*throw new [^;]*;\\s*");
                Check.same("made by a call: " + line.trim(), ofField || thrown, true);
            }
        }
        for (String maker : new String[] {"StringBuilder", "ArrayList", "clone(", "copyOf", "toCharArray", "substring", "values("}) {
            Check.same("'" + maker + "' in the source", code.contains(maker), false);
        }
    }
}
