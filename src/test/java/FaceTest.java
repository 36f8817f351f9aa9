import java.lang.management.ManagementFactory;
import java.lang.reflect.Constructor;
import java.lang.reflect.Field;
import java.lang.reflect.Method;
import java.lang.reflect.Modifier;
import java.nio.file.Files;
import java.nio.file.Path;
import java.util.ArrayList;
import java.util.Arrays;
import java.util.List;
import java.util.Set;
import java.util.TreeSet;
import java.util.regex.Matcher;
import java.util.regex.Pattern;
import java.util.stream.Collectors;

/** The class has the document's face and no other, keeps to LANGUAGE.md as far as can be read off, and makes no objects in calls. */
public final class FaceTest {
    private static int wrong = 0;

    private static void check(boolean good, String what) {
        if (!good) {
            wrong++;
            System.out.println("not so: " + what);
        }
    }

    public static void main(String[] args) throws Exception {
        Set<String> due = faceOfDocument();
        Set<String> got = faceOfClass();
        check(due.size() == 44, "the document has 44 constructors and methods, read were " + due.size());
        check(due.equals(got), "the face\n  due " + due + "\n  got " + got);
        members();
        source();
        emptyHanded();
        if (wrong != 0) System.exit(1);
        System.out.println("the face and the language are as due");
    }

    private static Set<String> faceOfDocument() throws Exception {
        Set<String> face = new TreeSet<>();
        Matcher m = Pattern.compile("(?m)^    public ((?:int|long) \\w+|CircleTints)\\(([^)]*)\\);$").matcher(Files.readString(Path.of("../shared/DOC.md")));
        while (m.find()) {
            String types = Arrays.stream(m.group(2).split(", ")).map(p -> p.split(" ")[0]).collect(Collectors.joining(","));
            face.add(m.group(1) + "(" + types + ")");
        }
        return face;
    }

    private static String types(Class<?>[] all) {
        return "(" + Arrays.stream(all).map(Class::getSimpleName).collect(Collectors.joining(",")) + ")";
    }

    private static Set<String> faceOfClass() {
        Set<String> face = new TreeSet<>();
        for (Constructor<?> c : CircleTints.class.getDeclaredConstructors()) face.add(c.getName() + types(c.getParameterTypes()));
        for (Method m : CircleTints.class.getDeclaredMethods()) {
            if (!Modifier.isPrivate(m.getModifiers())) face.add(m.getReturnType() + " " + m.getName() + types(m.getParameterTypes()));
        }
        return face;
    }

    private static void members() {
        int outer = CircleTints.class.getModifiers();
        check(Modifier.isPublic(outer) && Modifier.isFinal(outer), "public and final");
        Set<String> constants = Set.of("NONE", "BAD", "STATE", "FULL", "MUCH", "NO");
        for (Field f : CircleTints.class.getDeclaredFields()) {
            boolean isConstant = constants.contains(f.getName());
            check(isConstant == Modifier.isPublic(f.getModifiers()), "whether public: " + f);
            check(isConstant || Modifier.isPrivate(f.getModifiers()), "private: " + f);
        }
        Set<String> open = new TreeSet<>();
        for (Method m : CircleTints.class.getMethods()) if (m.getDeclaringClass() == CircleTints.class) open.add(m.getName());
        List<Class<?>> all = new ArrayList<>(List.of(CircleTints.class));
        all.addAll(List.of(CircleTints.class.getDeclaredClasses()));
        check(all.size() <= 12, "twelve classes");
        for (Class<?> c : all) {
            check(c == CircleTints.class || Modifier.isStatic(c.getModifiers()), "static: " + c);
            check(Arrays.stream(c.getDeclaredFields()).filter(f -> !Modifier.isStatic(f.getModifiers())).count() <= 20, "twenty fields: " + c);
            for (Field f : c.getDeclaredFields()) {
                check(!Modifier.isStatic(f.getModifiers()) || Modifier.isFinal(f.getModifiers()), "static, final: " + f);
            }
            for (Method m : c.getDeclaredMethods()) {
                check(m.getParameterCount() <= 7, "seven parameters: " + m);
                boolean isFace = c == CircleTints.class && Modifier.isPublic(m.getModifiers());
                check(isFace || !open.contains(m.getName()), "a name of the face: " + m);
            }
        }
    }

    private static void source() throws Exception {
        String text = Files.readString(Path.of("src/main/java/CircleTints.java"));
        String code = text.replaceAll("(?s)/\\*.*?\\*/", "").replaceAll("//[^\n]*", "");
        for (String word : new String[] {"throw", "throws", "try", "catch", "synchronized", "assert", "package", "new \\w+\\(\\)\\s*\\{", "->", "::"}) {
            check(!Pattern.compile(word.matches("\\w+") ? "\\b" + word + "\\b" : word).matcher(code).find(), "no " + word);
        }
        check(!Pattern.compile("\\b\\w+Exact\\(").matcher(code).find(), "no function that ends in Exact");
        Matcher imports = Pattern.compile("import ([^;]*);").matcher(code);
        while (imports.find()) check(Set.of("java.util.Arrays", "java.util.ArrayList", "java.util.List").contains(imports.group(1)), "import " + imports.group(1));
        Matcher library = Pattern.compile("\\b(Math|Integer|Long|Arrays|System)\\.(\\w+)").matcher(code);
        Set<String> known = Set.of("abs", "min", "max", "floorDiv", "floorMod", "compare", "bitCount", "fill", "arraycopy");
        while (library.find()) check(known.contains(library.group(2)), "library " + library.group());
        int start = 0;
        String[] lines = text.split("\n");
        for (int i = 0; i < lines.length; i++) {
            if (lines[i].matches("( {4}| {8})[^ /*}].*\\) \\{")) start = i;
            if (lines[i].matches("( {4}| {8})\\}")) check(i - start < 60, "sixty lines: " + lines[start]);
            check(lines[i].length() <= 130, "a long line: " + lines[i]);
            check(lines[i].chars().allMatch(c -> c >= 32 && c < 127), "plain signs: " + lines[i]);
        }
    }

    private static long scene(CircleTints x) {
        long sum = 0;
        for (int i = 0; i < 40; i++) {
            sum += x.deal(1 + i % 6, 3 + i % 8) + x.change(0, 1, 2) + x.binds() + x.room(0) + x.turns(1) + x.rings() + x.whole() + x.off(0);
            sum += x.fits(16, 2, 1) + x.place(40, 3, 0, 0) + x.ways(8, 1, 1) + x.paint(0, 30, 2, 0) + x.tight(0, 30, 2, 0) + x.arcs(0, 30, 2);
            sum += x.rounds(0, 30, 2, 1) + x.judge(1, 15, 1) + x.next(i, 7, 99, 1, 0) + x.fraction(0, i, 7) + x.fraction(1, 3, i + 1);
            sum += x.does(0, i % 5, 1) + x.compare(0, 1) + x.told(0, 2) + x.hold(2, 1, 0) + x.told(2, 6) + x.hold(3, 0, 0) + x.image() + x.back();
            for (char c : "points 1;list 0 3 4;round wide 2 0 1".toCharArray()) x.feed(c, 1);
            sum += x.text() + x.sheet(3, 1, 40) + x.write(3, 2, 9) + x.copy(3, 0, 3, 1, 30) + x.item(3, 3) + x.drop(0) + x.line(0, 1, 0, 1);
        }
        return sum;
    }

    private static void emptyHanded() {
        com.sun.management.ThreadMXBean bean = (com.sun.management.ThreadMXBean) ManagementFactory.getThreadMXBean();
        CircleTints x = new CircleTints();
        long sum = scene(x) + bean.getCurrentThreadAllocatedBytes();
        long before = bean.getCurrentThreadAllocatedBytes();
        sum += scene(x);
        long made = bean.getCurrentThreadAllocatedBytes() - before;
        // the scene itself makes forty rows of signs
        check(made < 12000, "calls make no objects, but " + made + " bytes were made (" + sum + ")");
        before = bean.getCurrentThreadAllocatedBytes();
        x = new CircleTints();
        made = bean.getCurrentThreadAllocatedBytes() - before;
        check(made < 20000 && x.count(0) == 0, "a new object is small: " + made + " bytes");
    }
}
