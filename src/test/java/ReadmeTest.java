import java.io.IOException;
import java.lang.reflect.Method;
import java.lang.reflect.Modifier;
import java.nio.file.DirectoryStream;
import java.nio.file.Files;
import java.nio.file.Path;
import java.util.ArrayList;
import java.util.List;

/** What README.md tells of the use: its examples stand here line by line, and answer what it says. */
public final class ReadmeTest {
    private static final Path README = Path.of("README.md");
    private static final Path TESTS = Path.of("src", "test", "java");
    private static int wrong = 0;

    public static void main(String[] args) throws IOException {
        List<String> readme = Files.readAllLines(README);
        due("the examples", blocks(readme, "```java", "```"), blocks(ownLines(), "// README", "// here"));
        hello();
        lossAndLimits();
        namesEveryCall(readme);
        namesEveryTest(readme);
        System.out.println("ReadmeTest: " + (wrong == 0 ? "all is as due" : wrong + " faults"));
        if (wrong != 0) {
            System.exit(1);
        }
    }

    private static void hello() {
        // README
        StreamHall hall = new StreamHall();
        hall.grant(1, 6, 8);                // side 1 allows 8 bytes of a stream that side 0 opens
        hall.join();                        // from now on grants are limits
        int id = hall.open(0, true);        // 0: the first stream of BOTH ways of side 0
        hall.feed(5, 0x6f6c6c6568L);        // "hello" on the tape
        hall.write(0, id);                  // 5, and the tape is empty
        hall.finish(0, id);
        int place = hall.fill(0, 100);      // a STREAM frame on the line, with the end
        hall.deliver(place);                // side 1 takes it; a frame may be delivered often, or never
        hall.gone(place, true);             // side 0 hears that it has arrived (false: that it was lost)
        int count = hall.read(1, id, 2048); // 5; outs(0) has the bytes
        // here
        due("the id", id, 0);
        due("side 1's grant", hall.stream(0, id, 3), 8L);
        due("what was read", count, 5);
        due("the bytes", hall.outs(0), 0x6f6c6c6568L);
        due("the sending part has arrived", hall.stream(0, id, 0), 2L);
        due("the receiving part is read", hall.stream(1, id, 8), 3L);
        due("the tape is empty", hall.feed(1, 0), 1);
    }

    private static void lossAndLimits() {
        // README
        StreamHall hall = new StreamHall();
        hall.grant(1, 6, 3);                // 3 bytes of a stream are allowed at first
        hall.join();
        int id = hall.open(0, true);
        hall.feed(5, 0x6f6c6c6568L);
        hall.write(0, id);                  // 5: writing has no limit but the 65536 bytes of a side
        int lost = hall.fill(0, 100);       // STREAM (line(lost, 1) is 8) with "hel"
        hall.gone(lost, false);             // its bytes are to be sent again
        int blocked = hall.fill(0, 100);    // STREAM DATA BLOCKED (21) comes before STREAM
        int again = hall.fill(0, 100);      // STREAM with "hel"
        hall.deliver(again);                // 0: taken without an error
        hall.read(1, id, 2048);             // 3; what was read may come anew, so the grant grows
        int more = hall.fill(1, 100);       // MAX STREAM DATA (17): 6 bytes are allowed
        hall.deliver(more);
        int rest = hall.fill(0, 100);       // STREAM with "lo"
        int none = hall.fill(0, 100);       // -1: there is nothing more to send
        int error = hall.take(1, 8, 16, 0, 0); // 4 LIMIT: side 0 may open four such streams, not a fifth
        // here
        due("written", hall.stream(0, id, 1), 5L);
        due("blocked is STREAM DATA BLOCKED", hall.line(blocked, 1), 21L);
        due("again is STREAM", hall.line(again, 1), 8L);
        due("again has the lost bytes", text(hall, again), "hel");
        due("read", hall.side(1, 3), 3L);
        due("more is MAX STREAM DATA", hall.line(more, 1), 17L);
        due("more allows 6 bytes", hall.line(more, 3), 6L);
        due("rest is STREAM", hall.line(rest, 1), 8L);
        due("rest has the rest", text(hall, rest), "lo");
        due("none", none, -1);
        due("error", error, 4);
        due("the place of the lost frame is used again", lost, blocked);
    }

    private static String text(StreamHall hall, int place) {
        StringBuilder text = new StringBuilder();
        for (int k = 0; k < hall.line(place, 5); k++) {
            text.append((char) hall.data(place, k));
        }
        return text.toString();
    }

    /** With its parameters, as a row of the table of calls. */
    private static void namesEveryCall(List<String> readme) {
        for (Method method : StreamHall.class.getDeclaredMethods()) {
            String start = "| `" + method.getName() + "(";
            if (Modifier.isPublic(method.getModifiers())) {
                due("a row for " + method.getName(), readme.stream().filter(row -> row.startsWith(start))
                    .map(row -> row.substring(start.length(), row.indexOf(')')).split(", "))
                    .anyMatch(names -> parameters(names) == method.getParameterCount()), true);
            }
        }
    }

    private static int parameters(String[] names) {
        return names.length == 1 && names[0].isEmpty() ? 0 : names.length;
    }

    private static void namesEveryTest(List<String> readme) throws IOException {
        try (DirectoryStream<Path> files = Files.newDirectoryStream(TESTS, "*.java")) {
            for (Path file : files) {
                String name = "`" + file.getFileName().toString().replace(".java", "") + "`";
                due(name + " is named", readme.stream().anyMatch(row -> row.contains(name)), true);
            }
        }
    }

    private static List<String> ownLines() throws IOException {
        return Files.readAllLines(TESTS.resolve("ReadmeTest.java"));
    }

    /** The lines between a line that is first and the next one that is last, without what they are indented by. */
    private static List<String> blocks(List<String> lines, String first, String last) {
        List<String> all = new ArrayList<>();
        boolean inside = false;
        for (String line : lines) {
            String bare = line.strip();
            if (inside && !bare.equals(last)) {
                all.add(bare);
            }
            inside = inside ? !bare.equals(last) : bare.equals(first);
        }
        return all;
    }

    private static void due(String what, Object got, Object want) {
        if (!got.equals(want)) {
            wrong++;
            System.out.println("README.md, " + what + ": " + got + ", due is " + want);
        }
    }
}
