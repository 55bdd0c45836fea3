import java.io.IOException;
import java.nio.charset.StandardCharsets;
import java.nio.file.Files;
import java.nio.file.Path;
import java.util.List;

/** The README's example, as a program: what it says is due is answered, and the README has these very lines. */
public final class ReadmeTest {
    private static final String FROM = "// README from here";
    private static final String TO = "// README to here";

    private ReadmeTest() {
    }

    // README from here
    /** The tape takes twenty bytes a call, of each number the highest first; blanks fill up the last call's. */
    static int fed(BarredSuits x, String text) {
        for (int at = 0; at < text.length(); at += 20) {
            int[] numbers = new int[5];
            for (int i = 0; i < 20; i++) {
                int b = at + i < text.length() ? text.charAt(at + i) : ' ';
                numbers[i / 4] = numbers[i / 4] << 8 | b;
            }
            x.feed(numbers[0], numbers[1], numbers[2], numbers[3], numbers[4]);
        }
        return text.length();
    }
    // README to here

    private static void example() {
        // README from here
        BarredSuits x = new BarredSuits();
        due(x.desk(fed(x, "person ann; person bob; person cy; heir bob cy 20;"
                + "suit ann bob 5 facts 1 2 3 needs 1 2 buts 7; judged 0 10 merits yes 1 2 no 7;"
                + "suit ann cy 30 facts 2 3 4 needs 1; suit ann cy 40 facts 9 needs 1 4;")), 3); // three suits
        due(x.suit(0, 12), 0);                      // by the judgment of suit 0 its plaintiff wins
        due(x.isBound(0, 1, 2), true);              // cy is bound on the defendant's side,
        due(x.chain(0, 1, 2, BarredSuits.NONE), 1); // by a chain of one link,
        due(x.chain(0, 1, 2, 0), 0);                // link 0
        due(x.barred(1), 0b001);                    // suit 1 is barred by suit 0
        due(x.freeTill(1), 9);                      // filed on day 9 it would not have been
        due(x.forced(1), 2);                        // its defendant wins by the bar
        due(x.held(2, 1, 0), 0);                    // issue 1 of suit 2 is held by suit 0,
        due(x.held(2, 1, 1), 1);                    // yes
        due(x.issues(2, 1), 1 << 4);                // issue 4 is open
        due(x.say(2), 4);                           // "1y@0", of which
        due(x.said(1), 'y');                        // byte 1 is y
        due(x.goes(0, 0), 0b010);                   // were suit 0 reversed, suit 1 would not be barred
        due(x.would(12 * 0 + 2, 45, 1 << 3, 1 << 1, 0, 0), 0b001); // nor may ann sue cy on day 45 of fact 3
        due(x.ask(fed(x, "many barred > 0 or held = 1")), 2);      // suits 1 and 2
        due(x.judge(2, 50, true), true);            // an act
        due(x.find(2, 4, 0, true), BarredSuits.NONE); // another one: issue 4 is found no, it was not found
        due(x.suit(2, 12), 1);                      // the defendant wins
        due(x.undo(), 1);                           // the finding is taken back, one act still can be
        due(x.desk(fed(x, "person ann; person ann;")), -13); // fault 3: a name that is told already,
        due(x.fault(), 19);                         // at byte 19; nothing else has changed
        // README to here
    }

    private static void due(long got, long want) {
        Check.due("a row of the example", got, want);
    }

    private static void due(boolean got, boolean want) {
        Check.due("a row of the example", got, want);
    }

    private static void quoted(String readme, List<String> source) {
        boolean inside = false;
        int quoted = 0;
        for (String line : source) {
            String bare = line.strip();
            if (bare.equals(FROM) || bare.equals(TO)) {
                inside = bare.equals(FROM);
            } else if (inside) {
                quoted++;
                Check.due("README.md has: " + bare, readme.contains(bare + "\n"), true);
            }
        }
        Check.due("lines of the example", quoted > 0, true);
    }

    public static void main(String[] args) throws IOException {
        example();
        String readme = Files.readString(Path.of("README.md"), StandardCharsets.UTF_8);
        quoted(readme, Files.readAllLines(Path.of("src/test/java/ReadmeTest.java"), StandardCharsets.UTF_8));
        Check.finish("ReadmeTest");
    }
}
