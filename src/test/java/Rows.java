import java.util.ArrayList;
import java.util.List;

/**
 * A table of the document's sentences: "# 13 .." has a promise's number and what it says, ": calls" the
 * calls that go ahead of each row below it, and each row calls on a new object, with the answers due.
 * What throws, answers REFUSED or only asks must change nothing.
 */
final class Rows {
    private static final String QUESTIONS = "tamper read readNow spotOf bound line lasts differ changes "
            + "firstKnown words word nextEnding endingsAt ending endingOf watching watcherAt heard ofWindow "
            + "windowRead snapRead ofSnap snapDiffer journal entry rebuiltRead bookRead bookBy ofBook "
            + "joinedRead joinedWords ofStore house wouldSpan wouldForget isSound digest ";

    private Rows() {
    }

    static void check(String table) {
        int promise = 0;
        String sentence = "";
        List<Calls.Call> scene = List.of();
        for (String line : table.split("\n")) {
            String row = line.strip();
            if (row.startsWith("#")) {
                promise = Integer.parseInt(row.split(" ")[1]);
                sentence = row;
                scene = List.of();
            } else if (row.startsWith(":")) {
                scene = Calls.read(row.substring(1));
                run(promise, sentence + " | " + row, List.of(), scene);
            } else if (!row.isEmpty()) {
                run(promise, sentence + " | " + row, scene, Calls.read(row));
            }
        }
    }

    private static void run(int promise, String where, List<Calls.Call> scene, List<Calls.Call> row) {
        List<Calls.Call> before = new ArrayList<>(scene);
        TimeStore x = Calls.made(scene);
        for (Calls.Call call : row) {
            String got = Calls.answer(x, call);
            if (call.due() == null) {
                // It makes the scene, and must not go wrong in that.
                Check.due(promise, Calls.isException(got) ? got + " at " + call.text() + where : "", "");
            } else {
                String at = " at " + call.text() + " in " + where;
                Check.due(promise, got + at, call.due() + at);
                if (changesNothing(call, got)) {
                    Twins.same(promise, before, call);
                }
            }
            before.add(call);
        }
        Check.due(promise, before.size() <= Calls.MOST, true);
    }

    private static boolean changesNothing(Calls.Call call, String answer) {
        return Calls.isException(answer) || answer.equals("-9") || answer.equals("false")
                || QUESTIONS.contains(call.method().getName() + " ");
    }
}
