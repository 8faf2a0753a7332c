import java.io.IOException;
import java.nio.file.Files;
import java.nio.file.Path;
import java.util.ArrayList;
import java.util.List;
import java.util.regex.Matcher;
import java.util.regex.Pattern;

/** README.md shows these calls, in this order, with the answers that they have, and names every test. */
public final class ReadmeTest {
    private static final Path README = Path.of("README.md");
    private static final Pattern ANSWER = Pattern.compile("(.*;) +// answers (-?\\d+).*");

    private final List<String> shown = new ArrayList<>();
    private int next = 0;

    private ReadmeTest() {
    }

    public static void main(String[] args) throws IOException {
        String readme = Files.readString(README);
        ReadmeTest test = new ReadmeTest();
        for (String line : readme.split("\n")) {
            if (ANSWER.matcher(line).matches()) {
                test.shown.add(line);
            }
        }
        test.calls();
        Due.is("calls that README.md shows", test.shown.size(), test.next);
        for (String file : new java.io.File("src/test/java").list()) {
            if (file.endsWith("Test.java")) {
                String row = "| " + file.replace(".java", "") + " |";
                Due.is("README.md has the row " + row, readme.contains(row) ? 1 : 0, 1);
            }
        }
        Due.end("ReadmeTest");
    }

    private void calls() {
        SupperSeats supper = new SupperSeats();
        int table = supper.table(6);
        shows("int table = supper.table(6);", table);
        int anna = supper.guest(0, 1);
        shows("int anna = supper.guest(0, 1);", anna);
        int bert = supper.guest(1, 2);
        shows("int bert = supper.guest(1, 2);", bert);
        shows("supper.wish(anna, bert);", supper.wish(anna, bert));
        shows("supper.sit(anna, table, 1);", supper.sit(anna, table, 1));
        shows("supper.whyNot(bert, table, 1);", supper.whyNot(bert, table, 1));
        shows("supper.bestSeat(bert);", supper.bestSeat(bert));
        shows("supper.seatAll();", supper.seatAll());
        shows("supper.count(4);", supper.count(4));
        shows("supper.feud(0, 1);", supper.feud(0, 1));
        shows("supper.undo();", supper.undo());
        shows("supper.who(table, 2);", supper.who(table, 2));
        String text = "0@0a;-1";
        Due.append(supper, text);
        shows("supper.firstError();", supper.firstError());
        shows("supper.seats();", supper.seats());
    }

    private void shows(String call, int answered) {
        String line = next < shown.size() ? shown.get(next) : "";
        next++;
        Matcher parts = ANSWER.matcher(line);
        if (!parts.matches() || !parts.group(1).equals(call)) {
            Due.report("README.md does not show " + call + " but " + line);
            return;
        }
        Due.is("README.md, " + call, answered, Long.parseLong(parts.group(2)));
    }
}
