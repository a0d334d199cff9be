/**
 * Boundary cases, each on a hall of its own: the sentence of the document, the calls ahead, and the call with the
 * answer that is due. No hall gets more than the 512 calls that the document allows.
 */
final class Edges {
    private final Checks checks = new Checks();
    private String sentence = "";

    /** The sentence to which the following cases belong, with the number of its promise. */
    void sentence(String text) {
        sentence = text;
    }

    void due(String ahead, String call, long due) {
        TarockHall hall = Script.hall(ahead);
        checks.same(name(ahead, call), Answers.of(() -> Script.run(hall, call)), Long.toString(due));
    }

    /** Several looks at one hall: "turn 2, phase 1, knows 0 3 -1" are three calls, each with its answer at the end. */
    void shows(String ahead, String looks) {
        TarockHall hall = Script.hall(ahead);
        for (String look : looks.split(",\\s*")) {
            int end = look.lastIndexOf(' ');
            String call = look.substring(0, end);
            checks.same(name(ahead, call), Answers.of(() -> Script.run(hall, call)), look.substring(end + 1));
        }
    }

    void outside(String ahead, String call) {
        refused(ahead, call, "throws.IndexOutOfBoundsException");
    }

    void badArgument(String ahead, String call) {
        refused(ahead, call, "throws.IllegalArgumentException");
    }

    void badState(String ahead, String call) {
        refused(ahead, call, "throws.IllegalStateException");
    }

    /** The hall has to go on as its twin does, on which the refused call was not tried. */
    private void refused(String ahead, String call, String due) {
        TarockHall hall = Script.hall(ahead);
        TarockHall twin = Script.hall(ahead);
        checks.same(name(ahead, call), Answers.of(() -> Script.run(hall, call)), due);
        checks.same(name(ahead, call) + ", the state behind it", Answers.ofState(hall), Answers.ofState(twin));
        checks.same(name(ahead, call) + ", the way on", Script.finish(hall), Script.finish(twin));
    }

    void holds(String what, boolean fact) {
        checks.holds(sentence + ": " + what, fact);
    }

    void end(String name) {
        checks.end(name);
    }

    private String name(String ahead, String call) {
        return sentence + ": [" + ahead + "] " + call;
    }
}
