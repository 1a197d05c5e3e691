import java.io.IOException;
import java.lang.reflect.Constructor;
import java.lang.reflect.Field;
import java.lang.reflect.Method;
import java.lang.reflect.Modifier;
import java.nio.file.Files;
import java.nio.file.Path;
import java.util.ArrayList;
import java.util.Collections;
import java.util.List;
import java.util.TreeSet;
import java.util.regex.Matcher;
import java.util.regex.Pattern;

/** The class shows the document's face and nothing more, and keeps to the rules that can be seen from outside. */
public final class FaceTest {
    private static final String I = "IndexOutOfBoundsException";
    private static final String A = "IllegalArgumentException";
    private static final String S = "IllegalStateException";

    private static final String[] FACE = {
        "int sorts(int,int) " + I + " " + A,
        "int hire(int,int,int) " + I + " " + A,
        "int fail(int,int,boolean) " + I + " " + A,
        "int lane(int,int,int,boolean) " + I + " " + A + " " + S,
        "int timetable(int,int,int,int,int,int) " + I + " " + A,
        "int plan(int,int,int,int) " + I + " " + A,
        "int address(int,int) " + I + " " + A + " " + S,
        "int away(int,int,int) " + I + " " + A,
        "int parcel(int,int,int,int,int,boolean) " + I + " " + A + " " + S,
        "int worth(int,int,int) " + I + " " + A + " " + S,
        "int promise(int,int,int,int) " + I + " " + A + " " + S,
        "boolean doubt(int,int) " + I + " " + A + " " + S,
        "int van(int,int,int) " + I + " " + A + " " + S,
        "int locker(int,int,int,int) " + I + " " + A + " " + S,
        "int hour(int) " + A + " " + S,
        "int resolve(int,boolean) " + I + " " + S,
        "int duty(int) " + I + " " + S,
        "int forward(int,int) " + I + " " + S,
        "int giveBack(int) " + I + " " + S,
        "int lose(int) " + I + " " + S,
        "int find(int,int) " + I + " " + S,
        "int fetch(int,int) " + I + " " + S,
        "int claim(int,int,boolean) " + I + " " + A + " " + S,
        "int merge(int,int) " + I + " " + A,
        "int clock()",
        "int where(int) " + I,
        "int at(int) " + I,
        "int part(int,int) " + I + " " + A,
        "int count(int) " + A,
        "int place(int) " + I,
        "int waits(int) " + I,
        "int onLane(int) " + I,
        "int onVan(int) " + I,
        "int free(int,int) " + I + " " + A,
        "int account(int) " + I,
        "int cash(int) " + I,
        "int scans()",
        "int scan(int,int) " + I + " " + A,
        "int way(int,int) " + I,
        "int wrong(int) " + I,
        "int stock(int) " + I,
        "int stockByScans(int) " + I,
        "int foreseen(int) " + I,
    };

    private static final String[] CONSTANTS = {
        "NONE=-1", "UNSORTED=0", "ROW=1", "LANE=2", "READY=3", "VAN=4", "LOCKER=5", "HELD=6", "HANDED=7", "LOST=8",
        "TAKEN=0", "SORTED=1", "LEFT=2", "CAME=3", "OUT=4", "GIVEN=5", "FAILED=6", "STORED=7", "FETCHED=8", "BACK=9",
        "GONE=0", "LATE=1",
    };

    private static final Pattern OF_LIBRARY = Pattern.compile("\\b(Math|Integer|Long|Arrays)\\.(\\w+)");
    private static final List<String> LIBRARY = List.of("Math.abs", "Math.max", "Math.min", "Math.floorMod", "Math.floorDiv",
        "Integer.compare", "Long.compare", "Integer.bitCount", "Arrays.fill", "Arrays.copyOf", "Arrays.copyOfRange");
    private static final Pattern THROWN = Pattern.compile("\\bthrow\\b(.*)");
    private static final String THROWS = " new (" + I + "|" + A + "|" + S + ")\\((\"[^\"]*\")?\\);";

    private static int wrong = 0;

    public static void main(String[] args) throws IllegalAccessException, IOException {
        same("methods", methods(), List.of(FACE));
        same("constants", constants(), List.of(CONSTANTS));
        constructor();
        shape(Ropewalk.class);
        for (Class<?> inner : Ropewalk.class.getDeclaredClasses()) {
            check(inner + " is private and static", Modifier.isPrivate(inner.getModifiers()) && Modifier.isStatic(inner.getModifiers()));
            shape(inner);
        }
        check("at most twelve classes", Ropewalk.class.getDeclaredClasses().length < 12);
        text();
        if (wrong > 0) {
            System.exit(1);
        }
    }

    private static void check(String what, boolean is) {
        if (!is) {
            wrong++;
            System.out.println("not so: " + what);
        }
    }

    private static void same(String what, List<String> got, List<String> want) {
        List<String> a = new ArrayList<>(got);
        List<String> b = new ArrayList<>(want);
        Collections.sort(a);
        Collections.sort(b);
        check(what + " are " + b + ", not " + a, a.equals(b));
    }

    private static List<String> methods() {
        List<String> all = new ArrayList<>();
        for (Method m : Ropewalk.class.getDeclaredMethods()) {
            if (Modifier.isPrivate(m.getModifiers())) {
                continue;
            }
            StringBuilder text = new StringBuilder(m.getReturnType() + " " + m.getName() + "(");
            for (Class<?> type : m.getParameterTypes()) {
                text.append(text.charAt(text.length() - 1) == '(' ? "" : ",").append(type);
            }
            text.append(')');
            for (Class<?> type : m.getExceptionTypes()) {
                text.append(' ').append(type.getSimpleName());
            }
            check(m + " is public", m.getModifiers() == Modifier.PUBLIC);
            all.add(text.toString());
        }
        return all;
    }

    private static List<String> constants() throws IllegalAccessException {
        List<String> all = new ArrayList<>();
        for (Field f : Ropewalk.class.getDeclaredFields()) {
            if (!Modifier.isPrivate(f.getModifiers())) {
                check(f + " is constant", f.getModifiers() == (Modifier.PUBLIC | Modifier.STATIC | Modifier.FINAL));
                all.add(f.getName() + "=" + f.get(null));
            }
        }
        return all;
    }

    private static void constructor() {
        Constructor<?>[] all = Ropewalk.class.getDeclaredConstructors();
        check("one public constructor", all.length == 1 && Modifier.isPublic(all[0].getModifiers()) && all[0].getParameterCount() == 0);
        check("public and final", Ropewalk.class.getModifiers() == (Modifier.PUBLIC | Modifier.FINAL));
    }

    /** Names, parameters, fields and static state of a class. */
    private static void shape(Class<?> type) {
        TreeSet<String> face = new TreeSet<>();
        for (String line : FACE) {
            face.add(line.substring(line.indexOf(' ') + 1, line.indexOf('(')));
        }
        for (Method m : type.getDeclaredMethods()) {
            boolean isFace = type == Ropewalk.class && Modifier.isPublic(m.getModifiers());
            check(m + " bears a name of its own", isFace || !face.contains(m.getName()));
            check(m + " takes at most seven", m.getParameterCount() <= 7);
        }
        for (Constructor<?> c : type.getDeclaredConstructors()) {
            check(c + " takes at most seven", c.getParameterCount() <= 7);
        }
        int fields = 0;
        for (Field f : type.getDeclaredFields()) {
            boolean isStatic = Modifier.isStatic(f.getModifiers());
            fields += isStatic ? 0 : 1;
            check(f + " is final if it is static", !isStatic || Modifier.isFinal(f.getModifiers()));
        }
        check(type + " has at most some twenty fields", fields <= 20);
    }

    private static void text() throws IOException {
        List<String> lines = Files.readAllLines(Path.of("src/main/java/Ropewalk.java"));
        String[] words = {"->", "::", "catch", "finally", "synchronized", "assert ", "protected", "Exact(", ".equals(", "hashCode",
            "toString", "System.", "Object ", "import static", "package ", "while (true)", "for (;;)"};
        int since = 0;
        for (int i = 0; i < lines.size(); i++) {
            String line = lines.get(i);
            for (String word : words) {
                check("without " + word.trim() + ": " + line, !line.contains(word));
            }
            for (Matcher m = OF_LIBRARY.matcher(line); m.find();) {
                check("of the library: " + line, LIBRARY.contains(m.group()));
            }
            for (Matcher m = THROWN.matcher(line); m.find();) {
                check("what the document throws: " + line, m.group(1).matches(THROWS));
            }
            check("imports ArrayList alone: " + line, !line.startsWith("import ") || line.equals("import java.util.ArrayList;"));
            if (line.isEmpty()) {
                since = i;
            }
            check("short pieces: " + line, i - since <= 60);
        }
    }
}
