import java.io.IOException;
import java.nio.file.Files;
import java.nio.file.Path;
import java.util.List;

/** The example in README.md: each of its lines is here, with the answer that it tells. */
final class ReadmeTest {
    private static final Checks CHECKS = new Checks();

    private static List<String> lines;
    private static int next;

    public static void main(String[] args) throws IOException {
        lines = Files.readAllLines(Path.of("README.md"));
        next = lines.indexOf("```java") + 1;
        follow("KnowDisk x = new KnowDisk(4);");
        KnowDisk x = new KnowDisk(4);
        told("x.page(1, -1, 5);", x.page(1, -1, 5));
        told("x.page(3, 0, 0);", x.page(3, 0, 0));
        told("x.commit(1);", x.commit(1));
        told("x.sync();", x.sync());
        told("x.backup(1);", x.backup(1));
        told("x.page(1, 0, 6);", x.page(1, 0, 6));
        told("x.derived(1);", x.derived(1));
        told("x.commit(2);", x.commit(2));
        follow("x.cut(1, 16);");
        x.cut(1, 16);
        told("x.start();", x.start());
        told("x.at(0, 15);", x.at(0, 15));
        told("x.poke(0, 15, 3);", x.poke(0, 15, 3));
        told("x.wrong(1);", x.wrong(1));
        CHECKS.due("the example ends here", follow("```").isEmpty(), true);
        CHECKS.end();
    }

    /** The next line begins with this call: what stands behind it. */
    private static String follow(String call) {
        String line = next < lines.size() ? lines.get(next) : "";
        next++;
        CHECKS.due("'" + line + "' is " + call, line.startsWith(call), true);
        return line.startsWith(call) ? line.substring(call.length()).strip() : "";
    }

    private static void told(String call, int answer) {
        CHECKS.due(call + " " + answer, follow(call).startsWith("// " + answer + ": "), true);
    }
}
