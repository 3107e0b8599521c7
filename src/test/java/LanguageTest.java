import java.io.IOException;
import java.lang.reflect.Constructor;
import java.lang.reflect.Field;
import java.lang.reflect.Method;
import java.lang.reflect.Modifier;
import java.nio.file.Files;
import java.nio.file.Path;
import java.util.ArrayList;
import java.util.Arrays;
import java.util.HashSet;
import java.util.List;
import java.util.Set;
import java.util.TreeSet;
import java.util.regex.Matcher;
import java.util.regex.Pattern;

/** The face of the class, and of LANGUAGE.md what can be seen without reading. */
public final class LanguageTest {
    private static final String FACE = """
            int surface(int,int,int) int slope(int,int,int,int) int flow(int,int) int cliff(int,int)
            int boulder(int,int) int fits(int) int steps(int,int) int home(int) int upstream(int)
            int scratch(int,int) int put(int,int) int may(int) int laid(int) int ridge()
            int fact(int,int,int,int,int) int age(int,int,int) int fewest() int sure(int,int) int core()
            int parted() int sign(int,int,int,int) int stand(int) int area(int,int) int lake(int,int,int)
            int shore(int,int,int,int) int zone(int,int) int ice(int,int) int warm(int,int,int)
            int type(long,int) int clear() int fault() int read() int image(int) int from(int) int count(int)
            long digest()
            """;
    private static final String FORBIDDEN = "\\b(throws?|try|catch|finally|synchronized|assert|package|native"
            + "|volatile|transient|strictfp|yield|record|sealed|permits|var|Object|Exception|Error|Throwable|Thread"
            + "|Random|File|Clock|Runtime|currentTimeMillis|nanoTime|hashCode|toString|equals|NaN|Double|Float"
            + "|\\w+Exact|Collections|stream|Stream|Scanner|Class|getClass)\\b|->|::|@";
    private static final int MOST_LINES = 60;

    private static int wrong;

    public static void main(String[] args) throws IOException {
        face();
        for (Class<?> inside : StoneRiver.class.getDeclaredClasses()) {
            inside(inside);
        }
        expect("at most 12 classes", StoneRiver.class.getDeclaredClasses().length < 12);
        String root = System.getProperty("project", ".");
        String source = Files.readString(Path.of(root, "src/main/java/StoneRiver.java"));
        source(source);
        methodLengths(source);
        System.out.println(wrong + " rules broken");
        if (wrong != 0) {
            System.exit(1);
        }
    }

    private static void expect(String what, boolean holds) {
        if (!holds) {
            wrong++;
            System.out.println("not so: " + what);
        }
    }

    private static void face() {
        Class<?> c = StoneRiver.class;
        expect("public and final", Modifier.isPublic(c.getModifiers()) && Modifier.isFinal(c.getModifiers()));
        Constructor<?>[] constructors = c.getDeclaredConstructors();
        expect("one public constructor without arguments", constructors.length == 1
                && Modifier.isPublic(constructors[0].getModifiers()) && constructors[0].getParameterCount() == 0);
        Set<String> seen = new TreeSet<>();
        Set<String> publicNames = new HashSet<>();
        for (Method m : c.getDeclaredMethods()) {
            if (Modifier.isPublic(m.getModifiers())) {
                List<String> types = new ArrayList<>();
                for (Class<?> type : m.getParameterTypes()) {
                    types.add(type.getSimpleName());
                }
                seen.add(m.getReturnType() + " " + m.getName() + "(" + String.join(",", types) + ")");
                publicNames.add(m.getName());
                expect(m + " is no static", !Modifier.isStatic(m.getModifiers()));
            } else {
                expect(m + " is private", Modifier.isPrivate(m.getModifiers()));
            }
        }
        Set<String> due = new TreeSet<>(Arrays.asList(FACE.trim().replaceAll("\\) *\\s*(?=int|long)", ")\n").split("\n")));
        expect("the face's methods are " + due + " but are " + seen, due.equals(seen));
        privateNames(c, publicNames);
        Set<String> constants = new TreeSet<>();
        for (Field f : c.getDeclaredFields()) {
            if (!Modifier.isPrivate(f.getModifiers())) {
                constants.add(Modifier.toString(f.getModifiers()) + " " + f.getType() + " " + f.getName());
            }
        }
        expect("the face's constants, not " + constants, constants.equals(Set.of("public static final int NONE",
                "public static final int BAD", "public static final int NO", "public static final int FULL",
                "public static final int QUARREL")));
        fields(c);
    }

    private static void privateNames(Class<?> c, Set<String> publicNames) {
        List<Class<?>> all = new ArrayList<>(List.of(c.getDeclaredClasses()));
        all.add(c);
        for (Class<?> each : all) {
            for (Method m : each.getDeclaredMethods()) {
                boolean face = each == c && Modifier.isPublic(m.getModifiers());
                expect(m + " bears no name of the face", face || !publicNames.contains(m.getName()));
                expect(m + " takes at most seven", m.getParameterCount() <= 7);
            }
        }
    }

    private static void inside(Class<?> c) {
        int m = c.getModifiers();
        expect(c + " is static, and not public", Modifier.isStatic(m) && !Modifier.isPublic(m)
                && !Modifier.isProtected(m));
        expect(c + " has no classes inside", c.getDeclaredClasses().length == 0);
        fields(c);
    }

    private static void fields(Class<?> c) {
        int many = 0;
        for (Field f : c.getDeclaredFields()) {
            if (Modifier.isStatic(f.getModifiers())) {
                expect(f + " is final", Modifier.isFinal(f.getModifiers()));
            } else {
                many++;
            }
        }
        expect(c + " has at most twenty fields", many <= 20);
    }

    private static void source(String source) {
        String bare = source.replaceAll("(?s)/\\*.*?\\*/", "").replaceAll("//[^\n]*", "");
        Matcher forbidden = Pattern.compile(FORBIDDEN).matcher(bare);
        while (forbidden.find()) {
            expect("no '" + forbidden.group() + "'", false);
        }
        Matcher system = Pattern.compile("\\bSystem\\.(\\w+)").matcher(bare);
        while (system.find()) {
            expect("no System." + system.group(1), system.group(1).equals("arraycopy"));
        }
        Matcher imported = Pattern.compile("import ([^;]+);").matcher(bare);
        while (imported.find()) {
            expect("no import of " + imported.group(1), imported.group(1).equals("java.util.Arrays"));
        }
        expect("no joining of texts", !Pattern.compile("\"\\s*\\+|\\+\\s*\"").matcher(bare).find());
        expect("signs 1 to 127", source.chars().allMatch(sign -> sign < 128));
        expect("no static block", !Pattern.compile("static\\s*\\{").matcher(bare).find());
    }

    private static void methodLengths(String source) {
        String[] lines = source.split("\n");
        for (int i = 0; i < lines.length; i++) {
            String indent = lines[i].replaceAll("\\S.*", "");
            boolean opens = lines[i].endsWith("{") && lines[i].contains("(") || lines[i].matches(" +\\|\\|.*\\{");
            if (opens && (indent.length() == 4 || indent.length() == 8)) {
                int end = i;
                while (end < lines.length && !lines[end].equals(indent + "}")) {
                    end++;
                }
                expect("'" + lines[i].trim() + "' has at most " + MOST_LINES + " lines", end - i < MOST_LINES);
            }
            expect("line " + (i + 1) + " is at most 120 signs long", lines[i].length() <= 120);
        }
    }
}
