import java.io.IOException;
import java.lang.reflect.Method;
import java.lang.reflect.Modifier;
import java.nio.file.Files;
import java.nio.file.Path;
import java.util.List;

/** The example in README.md answers what its comments say, and README.md tells of each call of the face. */
public final class ReadmeTest extends Kit {
    private static List<String> lines = List.of();

    public static void main(String[] args) throws IOException {
        lines = Files.readAllLines(Path.of("README.md"));
        example();
        calls();
        CHECK.end();
    }

    private static void example() {
        CHECK.begin("the example in README.md");
        UpcastStreams x = new UpcastStreams(4);
        written("new UpcastStreams(4);");
        answers("x.stage(0, 3, 100, 0);", x.stage(0, 3, 100, 0) ? 1 : 0, 1, "type 0");
        answers("x.stage(1, 2, 50, 7);", x.stage(1, 2, 50, 7) ? 1 : 0, 1, "type 1");
        answers("x.commit(0, 0);", x.commit(0, 0), 2, "2, the version");
        x.learn(1, 2, 2, 10);
        written("x.learn(1, 2, 2, 10);");
        answers("x.load(0, 2);", x.load(0, 2), 2, "2, the events");
        answers("x.field(3);", x.field(3), 500, "balance 500");
        answers("x.stored(1, 4);", x.stored(1, 4), 50, "50:");
        x.follow(0, 0xff, 0x3f, 0);
        written("x.follow(0, 0xff, 0x3f, 0);");
        answers("x.poll(0, 4);", x.poll(0, 4), 2, "2, what came");
        answers("x.hand(1, 3);", x.hand(1, 3), 500, "500, a of");
        answers("x.done(0);", x.done(0), 2, "2: only now");
        CHECK.due("calls in the example", lines.stream().filter(line -> line.contains("x.")
                && line.contains(";") && line.contains("//")).count(), 11);
    }

    /** The call answers as due, and stands in README.md in one line with a comment that says so. */
    private static void answers(String call, long got, long want, String comment) {
        CHECK.due(call, got, want);
        CHECK.due(call + " // .. " + comment, lines.stream().anyMatch(line -> line.contains(call)
                && line.indexOf(comment) > line.indexOf("//")), true);
    }

    private static void written(String call) {
        CHECK.due(call + " is written", lines.stream().anyMatch(line -> line.contains(call)), true);
    }

    private static void calls() {
        CHECK.begin("the calls in README.md");
        for (Method m : UpcastStreams.class.getDeclaredMethods()) {
            if (Modifier.isPublic(m.getModifiers())) {
                String row = "| `" + m.getName() + "(";
                CHECK.due("rows that begin with " + row, lines.stream().filter(line -> line.startsWith(row)).count(), 1);
            }
        }
    }
}
