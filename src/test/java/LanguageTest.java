import java.io.File;
import java.io.PrintWriter;
import java.io.StringWriter;
import java.lang.management.ManagementFactory;
import java.lang.reflect.Field;
import java.lang.reflect.Method;
import java.lang.reflect.Modifier;
import java.nio.file.Files;
import java.nio.file.Path;
import java.util.List;
import java.util.Map;
import java.util.Set;
import java.util.TreeMap;
import java.util.TreeSet;
import java.util.regex.Matcher;
import java.util.regex.Pattern;
import java.util.spi.ToolProvider;
import java.util.stream.Collectors;
import java.util.stream.Stream;

/** The rules of ../shared/LANGUAGE.md that a test can look at, and the room that a run takes. */
public final class LanguageTest {
    private static final Checks C = new Checks();
    private static final Set<String> SIGNATURES = Set.of(
            "int feed(int,int,int,int,int)", "boolean end(int)", "int disk()", "int fault(int)", "int has(int)",
            "int letter(int,int)", "int process(int,int)", "long mean(int)", "int queue(int,int)", "int bits(int)",
            "int request(int,int,int)", "int next(int)", "int kept(int,int)", "int later(int,int,int)",
            "int share(int,int)", "int when(int,int)", "int late(int,int,int)", "int alone(int,int)",
            "int idling(int,int)", "int gain(int,int)", "int apart(int)", "int latest(int,int,int)",
            "int least(int,int,int)", "int expiry(int,int)", "int worst(int,int)", "int slicing(int,int)",
            "int lag(int)", "int see()", "int fits()", "int tells(int)", "int ticks(int)", "int ask(int,int,int)",
            "boolean weight(int,int)", "boolean idle(int)", "boolean slice(int)", "boolean on(int,boolean)",
            "int chance(int)", "boolean undo()", "boolean seed(int)", "int image()", "int octet(int)",
            "boolean take()", "int status(int)");
    private static final Set<String> FACE = SIGNATURES.stream()
            .map(s -> s.substring(s.indexOf(' ') + 1, s.indexOf('('))).collect(Collectors.toSet());

    public static void main(String[] args) throws Exception {
        face();
        inside();
        source(Files.readString(Path.of("src/main/java/DiskBudgets.java")));
        depth();
        room();
        C.close();
    }

    private static void face() {
        Set<String> found = new TreeSet<>();
        for (Method m : DiskBudgets.class.getDeclaredMethods()) {
            if (m.isSynthetic()) continue;
            boolean open = Modifier.isPublic(m.getModifiers());
            if (open) found.add(signature(m));
            else C.same("private " + m, Modifier.isPrivate(m.getModifiers()) && !FACE.contains(m.getName()), true);
        }
        C.same("the face " + found, found.equals(new TreeSet<>(SIGNATURES)), true);
        for (Field f : DiskBudgets.class.getDeclaredFields()) {
            boolean none = f.getName().equals("NONE");
            C.same("field " + f, none ? Modifier.isPublic(f.getModifiers()) : Modifier.isPrivate(f.getModifiers()), true);
        }
        C.same("final", Modifier.isFinal(DiskBudgets.class.getModifiers()), true);
        C.same("one constructor", DiskBudgets.class.getDeclaredConstructors().length, 1);
        C.same("NONE", DiskBudgets.NONE, -1);
    }

    private static String signature(Method m) {
        String types = Stream.of(m.getParameterTypes()).map(Class::getName).collect(Collectors.joining(","));
        boolean unlike = Modifier.isStatic(m.getModifiers()) || m.getExceptionTypes().length > 0;
        return (unlike ? "static or with exceptions " : "") + m.getReturnType().getName() + " " + m.getName() + "(" + types + ")";
    }

    private static void inside() {
        Class<?>[] classes = DiskBudgets.class.getDeclaredClasses();
        C.same("at most twelve classes", classes.length + 1 <= 12, true);
        for (Class<?> c : classes) {
            C.same("static " + c, Modifier.isStatic(c.getModifiers()), true);
            int fields = 0;
            for (Field f : c.getDeclaredFields()) {
                boolean fixed = Modifier.isStatic(f.getModifiers());
                if (fixed) C.same("final " + f, Modifier.isFinal(f.getModifiers()), true);
                else fields++;
            }
            C.same("twenty fields " + c, fields <= 20, true);
            for (Method m : c.getDeclaredMethods()) {
                C.same("no name of the face " + m, FACE.contains(m.getName()), false);
                C.same("seven parameters " + m, m.getParameterCount() <= 7, true);
            }
        }
    }

    private static void source(String text) {
        String code = text.replaceAll("(?s)/\\*.*?\\*/", "").replaceAll("//[^\n]*", "");
        List<String> out = List.of("import ", "->", "::", "catch", "throw", "try", "finally", "synchronized", "assert ",
                "Float.", "Double.", "Math.round", "Exact", "ordinal", "name()", "String.valueOf", "System.out",
                "instanceof", "Object", "hashCode", "static {", "package ", "var ", "new Random", "nanoTime");
        for (String s : out) C.same("no " + s, code.contains(s), false);
        Matcher calls = Pattern.compile("\\b(Math|System|Integer|Long|Arrays|String)\\.(\\w+)").matcher(code);
        Set<String> allowed = Set.of("Math.max", "Math.min", "Math.abs", "System.arraycopy", "Integer.bitCount");
        while (calls.find()) C.same("library " + calls.group(), allowed.contains(calls.group()), true);
        int lines = 0;
        for (String line : text.split("\n")) {
            lines = line.matches("    (    )?\\S.*\\{") ? 0 : lines + 1;
            if (line.matches("    (    )?\\}")) C.same("sixty lines", lines <= 60, true);
            C.same("plain signs", line.chars().allMatch(c -> c >= 32 && c < 127), true);
        }
    }

    /** Rules 8 and 11: no method calls itself, by others either, and the calls go at most eight deep. */
    private static void depth() throws Exception {
        ToolProvider javap = ToolProvider.findFirst("javap").orElse(null);
        if (javap == null) {
            System.out.println("no javap here: the depth of the calls was not looked at");
            return;
        }
        Path classes = Path.of(DiskBudgets.class.getProtectionDomain().getCodeSource().getLocation().toURI());
        Map<String, Set<String>> calls = new TreeMap<>();
        for (File file : classes.toFile().listFiles((dir, name) -> name.matches("DiskBudgets(\\$\\w+)?\\.class"))) {
            StringWriter told = new StringWriter();
            javap.run(new PrintWriter(told), new PrintWriter(told), "-p", "-c", file.getPath());
            callsOf(file.getName().replace(".class", ""), told.toString(), calls);
        }
        C.same("methods are found", calls.size() > FACE.size(), true);
        for (String name : FACE) {
            int deep = depthOf("DiskBudgets." + name, calls, 1);
            C.same("eight deep at most: " + name + " goes " + deep, deep <= 8, true);
        }
    }

    private static void callsOf(String itsClass, String told, Map<String, Set<String>> calls) {
        Pattern head = Pattern.compile("  (?:[\\w.$\\[\\]]+ )*(\\w+)\\(.*\\);");
        Pattern call = Pattern.compile(".*// (?:Interface)?Method (?:([\\w/$]+)\\.)?(\\w+):\\(.*");
        Set<String> its = new TreeSet<>();
        for (String line : told.split("\\R")) {
            Matcher h = head.matcher(line);
            Matcher c = call.matcher(line);
            if (h.matches()) its = calls.computeIfAbsent(itsClass + "." + h.group(1), k -> new TreeSet<>());
            else if (c.matches()) its.add((c.group(1) == null ? itsClass : c.group(1)) + "." + c.group(2));
        }
    }

    /** The way ends at twenty, where one calls itself. */
    private static int depthOf(String method, Map<String, Set<String>> calls, int open) {
        int most = open;
        if (open < 20) for (String c : calls.getOrDefault(method, Set.of())) most = Math.max(most, depthOf(c, calls, open + 1));
        return most;
    }

    /** What is made is made in the constructor: some thousands of elements, and none by a call. */
    private static void room() {
        com.sun.management.ThreadMXBean threads = (com.sun.management.ThreadMXBean) ManagementFactory.getThreadMXBean();
        long self = Thread.currentThread().getId();
        DiskBudgets x = Checks.disk("disk 900 seek 60 rate 4;budget 6 to 40;idle 3;slice 12;near 10;raise 3 for 20 rest 15;"
                + "process a weight 2 from 0 does on take 6 think 2;process b weight 5 from 3 does at 300 take 4 think 1,at 700 take 9 think 30;"
                + "stream c weight 1 from 5 does on take 3 think 4;");
        dearest(x);
        long before = threads.getThreadAllocatedBytes(self);
        for (int i = 0; i < 20; i++) dearest(x);
        long made = threads.getThreadAllocatedBytes(self) - before;
        C.same("made by calls: " + made, made < 2000, true);
        before = threads.getThreadAllocatedBytes(self);
        new DiskBudgets();
        made = threads.getThreadAllocatedBytes(self) - before;
        C.same("made by the constructor: " + made, made < 200000, true);
    }

    private static void dearest(DiskBudgets x) {
        x.ticks(3);
        x.ask(0, 5, 9);
        x.chance(3);
        x.slicing(100, 0);
        x.idling(200, 0);
        x.least(100, 0, 1000);
        x.tells(0);
        x.fits();
        x.expiry(390, 0);
        x.when(0, 40);
        x.apart(400);
        x.latest(400, 3, 0);
        x.image();
        x.undo();
        x.feed(1684632427, 540423200, 1936024939, 540090482, 1635018016);
        x.disk();
        x.take();
        x.see();
    }
}
