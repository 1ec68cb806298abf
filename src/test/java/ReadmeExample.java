import java.nio.file.Files;
import java.nio.file.Path;
import java.util.ArrayList;
import java.util.List;

/** The example of README.md: each call answers what stands behind it, and no call of the example is left out here. */
public final class ReadmeExample extends Checks {
    private static final List<String> rows = new ArrayList<>();
    private static final String TEXT = "(s^b)*2+a";
    private static int made = 0;
    private static boolean textTold = false;

    public static void main(String[] args) throws Exception {
        readRows();
        ChoirBox box = new ChoirBox();
        notes(box);
        pedalDown(box);
        forecasts(box);
        desk(box);
        due("calls of the example that were made", made, rows.size());
        finish("ReadmeExample");
    }

    private static void readRows() throws Exception {
        for (String line : Files.readAllLines(Path.of("README.md"))) {
            if (line.startsWith("box.")) {
                rows.add(line);
            }
            textTold |= line.startsWith("for (char sign : \"" + TEXT + "\".toCharArray()) box.type(sign);");
        }
    }

    /** Compares with the next row, which must tell the same call and its answer. */
    private static void row(String call, int answer) {
        String row = made < rows.size() ? rows.get(made) : "";
        made++;
        String told = row.replaceFirst(" +// ", " // ");
        holds("'" + row + "' tells of " + call + ", which answers " + answer, told.startsWith(call + "; // " + answer + ": "));
    }

    private static void notes(ChoirBox box) {
        row("box.knock(0, 60, 100)", box.knock(0, 60, 100));
        row("box.knock(3, 40, 50)", box.knock(3, 40, 50));
        row("box.tick(2)", box.tick(2));
        row("box.noteOf(0, 3)", box.noteOf(0, 3));
        row("box.noteOf(1, 4)", box.noteOf(1, 4));
    }

    private static void pedalDown(ChoirBox box) {
        row("box.pedal(1)", box.pedal(1));
        row("box.release(0, 60)", box.release(0, 60));
        row("box.pedal(0)", box.pedal(0));
    }

    private static void forecasts(ChoirBox box) {
        row("box.peak(10)", box.peak(10));
        row("box.silence()", box.silence());
        row("box.set(0, 2)", box.set(0, 2));
        row("box.freeIn()", box.freeIn());
        row("box.next()", box.next());
        row("box.undo()", box.undo());
    }

    private static void desk(ChoirBox box) {
        holds("README.md writes the text " + TEXT, textTold);
        write(box, TEXT);
        row("box.fault(0)", box.fault(0));
        row("box.adopt()", box.adopt());
        row("box.mix()", box.mix());
        row("box.alone(0)", box.alone(0));
        row("box.alone(1)", box.alone(1));
        row("box.knock(4, 60, 100)", box.knock(4, 60, 100));
    }
}
