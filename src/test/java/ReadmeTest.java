import java.io.ByteArrayOutputStream;
import java.io.PrintStream;
import java.nio.charset.StandardCharsets;
import java.nio.file.Files;
import java.nio.file.Path;
import java.util.ArrayList;
import java.util.List;

/** That README.md's texts and its example answer as it says, and that it tells of every call. */
public final class ReadmeTest {
    private static final Checks C = new Checks();

    public static void main(String[] args) throws Exception {
        String page = Files.readString(Path.of("README.md"));
        example(page);
        indentedText(page);
        everyCall(page);
        C.close();
    }

    private static void example(String page) throws Exception {
        String source = Files.readString(Path.of("src/test/java/Example.java"));
        alike("the example is Example.java", block(page, "```java\n"), source);
        alike("what it prints", block(page, "```text\n"), printed());
    }

    private static String printed() {
        PrintStream usual = System.out;
        ByteArrayOutputStream bytes = new ByteArrayOutputStream();
        System.setOut(new PrintStream(bytes, true, StandardCharsets.UTF_8));
        Example.main(new String[0]);
        System.setOut(usual);
        return bytes.toString(StandardCharsets.UTF_8).replace("\r\n", "\n");
    }

    /** The disk that the page shows on several lines is one without a FAULT, and as it says of it. */
    private static void indentedText(String page) {
        List<String> lines = new ArrayList<>();
        boolean inside = false;
        for (String line : page.split("\n")) {
            inside = line.startsWith("    disk ") || inside && line.startsWith("    ");
            if (inside) lines.add(line);
        }
        C.same("lines of the text", lines.size(), 4);
        DiskBudgets x = new DiskBudgets();
        Checks.put(x, String.join("\n", lines));
        C.same("its statements", x.disk(), 8);
        C.same("its fault", x.fault(0), 0);
        C.same("its processes", x.has(1), 2);
        // The page says that each statement of the second line may be left out.
        for (String left : lines.get(1).trim().split("(?<=;) ")) {
            Checks.put(x, String.join("\n", lines).replace(left, ""));
            C.same("without " + left, x.disk(), 7);
        }
        Checks.put(x, lines.get(0));
        C.same("the first statement alone", x.disk(), 1);
        Checks.put(x, String.join("\n", lines.subList(1, 4)));
        C.same("without the first statement", x.disk(), DiskBudgets.NONE);
    }

    private static void everyCall(String page) {
        for (var m : DiskBudgets.class.getMethods()) {
            if (m.getDeclaringClass() == DiskBudgets.class) {
                C.same("tells of " + m.getName(), page.contains("`" + m.getName() + "`"), true);
            }
        }
    }

    private static String block(String page, String fence) {
        int from = page.indexOf(fence);
        int to = page.indexOf("```\n", from + fence.length());
        return from < 0 || to < 0 ? "" : page.substring(from + fence.length(), to);
    }

    private static void alike(String what, String told, String is) {
        if (!told.equals(is)) System.out.println(what + ", README.md has:\n" + told + "and there is:\n" + is);
        C.same(what, told.equals(is), true);
    }
}
