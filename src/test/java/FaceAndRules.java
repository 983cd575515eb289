import java.lang.management.ManagementFactory;
import java.lang.reflect.Constructor;
import java.lang.reflect.Field;
import java.lang.reflect.Method;
import java.lang.reflect.Modifier;
import java.nio.file.Files;
import java.nio.file.Path;
import java.util.Arrays;
import java.util.Set;
import java.util.TreeSet;
import java.util.regex.Matcher;
import java.util.regex.Pattern;

/** The public face, what LANGUAGE.md rules out that a look at the source shows, and the room. */
public final class FaceAndRules {
    private static final String[] FACE = {
        "boolean again(int)", "boolean begin(int)", "boolean image(int)", "boolean isDijoin(int)",
        "boolean isStrong(int)", "boolean turn(int)", "int arc(int,int,int)",
        "int bounds(int,boolean)", "int chosen()", "int cost(int,int)", "int count(int)",
        "int dijoin()", "int draw(int,int)", "int drop(int)", "int join(int,int)",
        "int member(int,int)", "int node(int,int)", "int packing()", "int side(int,int)",
        "int tell(int,int)", "int uncross()", "int weigh(int,int)"};

    private static final String[] RULED_OUT = {
        "\\bthrow\\b", "\\btry\\b", "\\bcatch\\b", "\\bsynchronized\\b", "\\bassert\\b", "->", "::",
        "\\bpackage\\b", "Exact\\b", "System\\.(?!arraycopy)", "\\bimport (?!java\\.util\\.Arrays;)",
        "Integer\\.(?!bitCount)", "Math\\.(?!min\\b)", "\\bstatic \\{", "\\bwhile\\b"};

    private static int wrong = 0;

    private static void expect(boolean holds, String what) {
        if (!holds) {
            wrong++;
            System.out.println(what);
        }
    }

    private static void face() {
        Class<?> type = NetBorders.class;
        expect(type.getModifiers() == (Modifier.PUBLIC | Modifier.FINAL), "the class is public and final");
        Set<String> open = new TreeSet<>();
        Set<String> names = new TreeSet<>();
        for (Method method : type.getDeclaredMethods()) {
            if (!Modifier.isPrivate(method.getModifiers())) {
                String told = Arrays.toString(method.getParameterTypes());
                told = told.substring(1, told.length() - 1).replace(" ", "");
                open.add(method.getReturnType() + " " + method.getName() + "(" + told + ")");
                names.add(method.getName());
                expect(method.getModifiers() == Modifier.PUBLIC, method + " is public alone");
            }
        }
        expect(open.equals(new TreeSet<>(Arrays.asList(FACE))), "the methods are " + open);
        for (Method method : type.getDeclaredMethods()) {
            boolean hidden = Modifier.isPrivate(method.getModifiers());
            expect(!hidden || !names.contains(method.getName()), method + " bears a public name");
        }
        for (Field field : type.getDeclaredFields()) {
            boolean isNone = field.getName().equals("NONE") && Modifier.isPublic(field.getModifiers());
            expect(isNone || Modifier.isPrivate(field.getModifiers()), field + " is not private");
        }
        Constructor<?>[] made = type.getDeclaredConstructors();
        expect(made.length == 1 && made[0].getParameterCount() == 0, "one constructor");
        expect(Modifier.isPublic(made[0].getModifiers()), "the constructor is public");
        for (Class<?> inside : type.getDeclaredClasses()) {
            expect(Modifier.isStatic(inside.getModifiers()), inside + " is static");
            expect(inside.getDeclaredFields().length <= 20, inside + " has few fields");
        }
        expect(type.getDeclaredClasses().length < 12, "few classes");
    }

    private static void rules(String source) {
        String code = source.replaceAll("(?s)/\\*.*?\\*/", "").replaceAll("//[^\n]*", "");
        for (String one : RULED_OUT) {
            Matcher found = Pattern.compile(one).matcher(code);
            expect(!found.find(), "ruled out: " + one);
        }
        String[] lines = source.split("\n");
        for (int i = 0; i < lines.length; i++) {
            if (lines[i].matches(" {4}(?: {4})?[a-z].*\\) \\{")) {
                expect(methodLength(lines, i) <= 60, "more than 60 lines: " + lines[i].trim());
            }
        }
    }

    private static int methodLength(String[] lines, int header) {
        String end = lines[header].replaceAll("[^ ].*", "") + "}";
        for (int i = header; i < lines.length; i++) {
            if (lines[i].equals(end)) {
                return i - header + 1;
            }
        }
        return lines.length;
    }

    /** The dearest calls, 512 of them, may make nothing but the object and its images. */
    private static void room() {
        com.sun.management.ThreadMXBean meter =
            (com.sun.management.ThreadMXBean) ManagementFactory.getThreadMXBean();
        long id = Thread.currentThread().getId();
        busy();
        long before = meter.getThreadAllocatedBytes(id);
        busy();
        long bytes = meter.getThreadAllocatedBytes(id) - before;
        System.out.println("FaceAndRules: 512 calls made " + bytes + " bytes");
        expect(bytes < 30000, "512 calls make " + bytes + " bytes");
    }

    private static void busy() {
        NetBorders x = new NetBorders();
        x.begin(8);
        for (int a = 0; a < 16; a++) {
            x.arc(a % 4, 4 + (a / 4 + a) % 4, 1 + 61 * a % 1000);
        }
        for (int i = 0; i < 49; i++) {
            x.packing();
            x.uncross();
            x.dijoin();
            x.cost(i % 16, -1);
            x.image(i % 4);
            x.again(i % 3);
            x.side(i, 0);
            x.member(i, 1);
            x.node(i % 8, 2);
            x.draw(240, 1);
        }
    }

    public static void main(String[] args) throws Exception {
        face();
        rules(Files.readString(Path.of(args.length > 0 ? args[0] : "src/main/java/NetBorders.java")));
        room();
        System.out.println("FaceAndRules: " + wrong + " wrong");
        if (wrong != 0) {
            System.exit(1);
        }
    }
}
