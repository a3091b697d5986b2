import java.io.IOException;
import java.nio.file.Files;
import java.nio.file.Path;
import java.util.ArrayList;
import java.util.List;
import java.util.regex.Matcher;
import java.util.regex.Pattern;

/** The example of README.md: each call answers what is written behind it, and it is the one that stands there. */
public final class ReadmeTest {
    public static void main(String[] args) throws IOException {
        List<String> shown = shown();
        int[] answers = example();
        List<Integer> due = due(shown);
        Check.same("answers that README.md tells", due.size(), answers.length);
        for (int i = 0; i < answers.length && i < due.size(); i++) {
            Check.same("answer " + i + " of the example", answers[i], due.get(i));
        }
        Check.holds("it is the one of this test:\n" + String.join("\n", shown), written().containsAll(shown));
        Check.end("ReadmeTest");
    }

    private static int[] example() {
        CourierWar war = new CourierWar();
        int raised = war.shape(1, 85, 2);      // 8: a ridge down the column 1
        int troop = war.addTroop(0, 4, 10);    // 0: its number; side 0, cell 4, strength 10
        int turns = war.order(troop, 40);      // 2: by courier, as the general at 0 does not see over the ridge
        int ahead = war.ifPassed(5, 9);        // 10: the strength of the side 0, if five turns passed
        int lost = war.pass(turns + 3);        // 0: the order comes, and the troop marches
        int cell = war.troop(troop, 1);        // 40: where it is now
        String text = "0>5,3;0>6,3";           // orders as a text: to the cells 41 and 42
        for (int i = 0; i < text.length(); i++) {
            war.append(text.charAt(i));
        }
        int error = war.firstError();          // 11: the length of the text, as it has no error
        int given = war.load();                // 2: both orders are given, and the buffer is empty
        int saved = war.undo();                // 4: as if the text had not been loaded
        return new int[] {raised, troop, turns, ahead, lost, cell, error, given, saved};
    }

    /** The answers that are told behind the calls. */
    private static List<Integer> due(List<String> lines) {
        List<Integer> answers = new ArrayList<>();
        Pattern told = Pattern.compile("// (-?[0-9]+): ");
        for (String line : lines) {
            Matcher matcher = told.matcher(line);
            if (matcher.find()) {
                answers.add(Integer.valueOf(matcher.group(1)));
            }
        }
        return answers;
    }

    /** The lines of the example in README.md. */
    private static List<String> shown() throws IOException {
        List<String> lines = new ArrayList<>();
        boolean inside = false;
        for (String line : Files.readAllLines(Path.of("README.md"))) {
            if (line.startsWith("```")) {
                inside = line.equals("```java");
            } else if (inside) {
                lines.add(line.strip());
            }
        }
        return lines;
    }

    /** The lines of this test. */
    private static List<String> written() throws IOException {
        List<String> lines = new ArrayList<>();
        for (String line : Files.readAllLines(Path.of("src/test/java/ReadmeTest.java"))) {
            lines.add(line.strip());
        }
        return lines;
    }
}
