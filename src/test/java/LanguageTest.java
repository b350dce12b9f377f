import java.io.IOException;
import java.lang.management.ManagementFactory;
import java.lang.reflect.Constructor;
import java.lang.reflect.Executable;
import java.lang.reflect.Field;
import java.lang.reflect.InvocationTargetException;
import java.lang.reflect.Method;
import java.lang.reflect.Modifier;
import java.nio.file.Files;
import java.nio.file.Path;
import java.util.ArrayList;
import java.util.Arrays;
import java.util.List;
import java.util.Random;
import java.util.Set;
import java.util.TreeSet;
import java.util.regex.Matcher;
import java.util.regex.Pattern;

/** The rules of LANGUAGE.md that can be seen from the source and the class file; wild arguments; objects made. */
public final class LanguageTest {
    private static final Path SOURCE = Path.of("src/main/java/UnequalHours.java");
    private static final Path DOC = Path.of("../shared/DOC.md");
    private static final int[] WILD = {Integer.MIN_VALUE, Integer.MIN_VALUE + 1, -1000000, -86400, -2, -1, 0, 1, 2, 3, 4,
        5, 11, 12, 15, 16, 59, 60, 359, 360, 361, 719, 720, 3599, 3600, 35998, 35999, 36000, 43199, 43200, 86399, 86400,
        864000, 864001, Integer.MAX_VALUE - 1, Integer.MAX_VALUE};

    public static void main(String[] args) throws IOException, ReflectiveOperationException {
        String source = Files.readString(SOURCE);
        face();
        classes();
        words(source);
        methodLengths(source);
        wildCalls();
        objectsMade();
        Checks.close("LanguageTest");
    }

    private static void holds(String rule, boolean holds) {
        Checks.due(rule, holds, true);
    }

    /** Rule 1: the document's face and nothing beside it. */
    private static void face() throws IOException {
        Set<String> wanted = new TreeSet<>();
        Matcher m = Pattern.compile("    public (int|boolean) (\\w+)\\(([^)]*)\\);").matcher(Files.readString(DOC));
        while (m.find()) {
            int many = m.group(3).isEmpty() ? 0 : m.group(3).split(",").length;
            wanted.add(m.group(1) + " " + m.group(2) + " " + many);
        }
        Set<String> there = new TreeSet<>();
        Set<String> publicNames = new TreeSet<>();
        Set<String> privateNames = new TreeSet<>();
        for (Method method : UnequalHours.class.getDeclaredMethods()) {
            boolean isPublic = Modifier.isPublic(method.getModifiers());
            holds(method + " is public or private", isPublic || Modifier.isPrivate(method.getModifiers()));
            (isPublic ? publicNames : privateNames).add(method.getName());
            if (isPublic) {
                holds(method + " takes ints", Arrays.stream(method.getParameterTypes()).allMatch(t -> t == int.class));
                there.add(method.getReturnType() + " " + method.getName() + " " + method.getParameterCount());
            }
        }
        holds("the document's methods are found", wanted.size() == 51);
        holds("the face is " + wanted + ", found " + there, wanted.equals(there));
        privateNames.retainAll(publicNames);
        holds("private methods with public names: " + privateNames, privateNames.isEmpty());
        holds("public and final", Modifier.toString(UnequalHours.class.getModifiers()).equals("public final"));
        Constructor<?>[] made = UnequalHours.class.getDeclaredConstructors();
        holds("one public constructor", made.length == 1 && Modifier.isPublic(made[0].getModifiers())
            && made[0].getParameterCount() == 0);
        for (Field field : UnequalHours.class.getDeclaredFields()) {
            holds(field + " is private", Modifier.isPrivate(field.getModifiers()) || field.getName().equals("NONE"));
        }
    }

    private static List<Class<?>> allClasses() {
        List<Class<?>> all = new ArrayList<>(List.of(UnequalHours.class.getDeclaredClasses()));
        all.add(UnequalHours.class);
        return all;
    }

    /** Rules 2, 3, 5, 11: what the class files tell. */
    private static void classes() {
        holds("some twelve classes", allClasses().size() <= 14);
        for (Class<?> one : allClasses()) {
            int modifiers = one.getModifiers();
            boolean inside = one != UnequalHours.class;
            holds(one + " is static", !inside || Modifier.isStatic(modifiers));
            holds(one + " is hidden", !inside || !Modifier.isPublic(modifiers) && !Modifier.isProtected(modifiers));
            holds(one + " holds no class", !inside || one.getDeclaredClasses().length == 0);
            int fields = 0;
            for (Field field : one.getDeclaredFields()) {
                boolean isStatic = Modifier.isStatic(field.getModifiers());
                fields += isStatic ? 0 : 1;
                holds(field + " is final", !isStatic || Modifier.isFinal(field.getModifiers()));
            }
            holds(one + " has some twenty fields", fields <= 22);
            List<Executable> members = new ArrayList<>(List.of(one.getDeclaredMethods()));
            members.addAll(List.of(one.getDeclaredConstructors()));
            for (Executable member : members) {
                holds(member + " takes seven at most", member.getParameterCount() <= 7);
                holds(member + " is no lambda", !member.getName().startsWith("lambda$"));
            }
        }
    }

    /** Rules 3, 4, 6, 10, 13: words that must not be there. */
    private static void words(String source) {
        String code = Pattern.compile("/\\*.*?\\*/|//[^\n]*", Pattern.DOTALL).matcher(source).replaceAll(" ");
        for (String word : List.of("package", "throw", "throws", "try", "catch", "synchronized", "assert", "Object",
            "hashCode", "getClass", "Thread", "Random", "static \\{", "\\w+Exact", "NaN")) {
            holds("no " + word, !Pattern.compile("(?<!\\w)" + word + "(?!\\w)").matcher(code).find());
        }
        holds("no method reference", !code.contains("::"));
        holds("signs 1 to 126", source.chars().allMatch(c -> c > 0 && c < 127));
        Matcher library = Pattern.compile("\\bimport ([\\w.*]+);").matcher(code);
        while (library.find()) {
            holds(library.group(), library.group(1).matches("java\\.util\\.(ArrayList|Arrays|Iterator|List)"));
        }
        Matcher call = Pattern.compile("\\b(System|Math|Integer|Long|Arrays)\\.(\\w+)").matcher(code);
        while (call.find()) {
            boolean isKnown = switch (call.group(1)) {
                case "System" -> call.group(2).equals("arraycopy");
                case "Arrays" -> call.group(2).matches("copyOf|copyOfRange|fill");
                case "Math" -> call.group(2).matches("floorMod|floorDiv|min|max|abs");
                default -> call.group(2).matches("compare|min|max|bitCount|signum|MAX_VALUE|MIN_VALUE");
            };
            holds("library: " + call.group(), isKnown);
        }
    }

    /** Rule 11: methods stay short. */
    private static void methodLengths(String source) {
        String[] lines = source.split("\n");
        for (int i = 0; i < lines.length; i++) {
            if (lines[i].matches("( {4}| {8})[\\w\\[\\] ]+\\([^;]*\\{") && !lines[i].matches(" +(if|for|while|switch) .*")) {
                String end = lines[i].replaceAll("\\S.*", "}");
                int from = i;
                while (i < lines.length && !lines[i].equals(end)) {
                    i++;
                }
                holds(lines[from].strip() + " is short", i - from < 65);
            }
        }
    }

    /** Rule 7, and that an answer to wild arguments does not hang on which object it is. */
    private static void wildCalls() throws ReflectiveOperationException {
        List<Method> all = new ArrayList<>(List.of(UnequalHours.class.getMethods()));
        all.removeIf(method -> method.getDeclaringClass() != UnequalHours.class);
        all.sort((a, b) -> a.getName().compareTo(b.getName()));
        for (int seed = 0; seed < 60; seed++) {
            Random random = new Random(seed);
            UnequalHours x = new UnequalHours();
            UnequalHours y = new UnequalHours();
            if (seed % 3 > 0) {
                String text = "t0;p0,25200,61200;p180,18000,68400;t43200;p0,0,1;x5,1;t-43200;p3,1,86399;p9,86398,86399;";
                Checks.text(x, text);
                Checks.text(y, text);
                Checks.bells(x, "d0*1;n11.59*2?w*y/l+z-t<9999;n0*3;d11*24;n6*1;n7*1;n8*1;n9.0*1;");
                Checks.bells(y, "d0*1;n11.59*2?w*y/l+z-t<9999;n0*3;d11*24;n6*1;n7*1;n8*1;n9.0*1;");
            }
            for (int i = 0; i < 480; i++) {
                Method method = all.get(random.nextInt(all.size()));
                Object[] given = new Object[method.getParameterCount()];
                for (int k = 0; k < given.length; k++) {
                    given[k] = random.nextInt(3) == 0 ? WILD[random.nextInt(WILD.length)] : random.nextInt(5);
                }
                String told = method.getName() + Arrays.toString(given);
                holds(told + " answers alike", answer(method, x, given).equals(answer(method, y, given)));
            }
        }
    }

    private static String answer(Method method, UnequalHours x, Object[] given) throws ReflectiveOperationException {
        try {
            return "" + method.invoke(x, given);
        } catch (InvocationTargetException thrown) {
            holds(method.getName() + Arrays.toString(given) + " threw " + thrown.getCause(), false);
            return "";
        }
    }

    /** The room of a run, some 7.3 million elements: a sixth of its calls fills far less than a sixth of it. */
    private static void objectsMade() {
        com.sun.management.ThreadMXBean beans = (com.sun.management.ThreadMXBean) ManagementFactory.getThreadMXBean();
        if (!beans.isThreadAllocatedMemorySupported()) {
            return;
        }
        UnequalHours x = new UnequalHours();
        manyCalls(x);
        long before = beans.getCurrentThreadAllocatedBytes();
        long empty = beans.getCurrentThreadAllocatedBytes() - before;
        before = beans.getCurrentThreadAllocatedBytes();
        int sum = manyCalls(x);
        long made = beans.getCurrentThreadAllocatedBytes() - before - empty;
        holds("calls keep to the room, made bytes " + made + ", answers " + sum, made < 1000000);
    }

    private static int manyCalls(UnequalHours x) {
        // t0;p0,25200,61200; and d0*1?w<9; and q60;
        x.end(0);
        x.feed(0x74303B70, 0x302C3235, 0x3230302C, 0x36313230, 0x303B0000);
        x.end(18);
        int sum = x.text();
        x.feed(0x64302A31, 0x3F773C39, 0x3B000000, 0, 0);
        x.end(9);
        sum += x.bells();
        x.feed(0x7136303B, 0, 0, 0, 0);
        x.end(4);
        sum += x.acts() + x.fault() + x.ended() + x.is(5) + x.town(0, 0) + x.table(0, 5, 3) + x.turn(0, 5, 9, 2);
        sum += x.back(0, 5, 1, 77) + x.over(0, 5, 6, 0, 1) + x.date(0, 5, 6, 1) + x.ring(0, 5, 0, 0) + x.strokes(0, 5);
        sum += x.soonest(0, 5, 6) + x.clash(0, 5, 6) + x.bell(0, 4) + x.jar(0, 5, 6, 40000, 1) + x.work(0, 5, 9, 2, 7);
        sum += x.season(0, 2) + x.meet(0, 3, 4, 5, 0) + x.middle(0, 5, 1, 0) + x.apart(0, 5, 0, 7, 9);
        sum += x.best(0, 5, 360, 3, 0) + x.candle(0, 5, 9) + x.shared(0, 5, 0) + x.busiest(0, 5, 60, 0) + x.spare(0);
        sum += x.arrive(0, 5, 6, 7, 3) + x.exact(0, 5, 1, 0) + x.alike(0, 5, 6) + x.growth(0, 5, 360, 0);
        sum += x.watch(0, 5, 2, 0) + x.shows(0, 5, 1, 7, 2) + x.spread(5, 0) + x.total(0, 5, 60) + x.quiet(0, 5, 1);
        sum += x.same(0, 5) + x.until(0, 5, 6, 1, 7) + x.lag(0, 5, 1, 7) + x.offset(0, 5) + x.parts(60);
        sum += x.set(0, 5, 6, 7) + x.remove(0, 5) + (x.keep(1) && x.restore(1) ? 1 : 0) + x.undo() + x.write(0);
        return sum + x.octet(0);
    }
}
