import java.util.ArrayList;
import java.util.List;

/**
 * "A call that throws changes nothing": whole deals in which calls are refused between all others, compared with the
 * same deals without them. Which exception is due follows from the first line of the throws clause that applies.
 */
public final class RefusedCallsTest {
    private static final Checks CHECKS = new Checks();
    private static final int TRIED_AT_EACH_STEP = 4;
    private static final String OUTSIDE = "throws.IndexOutOfBoundsException";
    private static final String BAD_ARGUMENT = "throws.IllegalArgumentException";
    private static final String BAD_STATE = "throws.IllegalStateException";

    /** Calls that no state allows, each with the exception of the first line. */
    private static final String[][] NEVER = {
        {"deal -1", BAD_ARGUMENT}, {"deal 65536", BAD_ARGUMENT}, {"bid -1", BAD_ARGUMENT}, {"bid 6", BAD_ARGUMENT},
        {"call -1", OUTSIDE}, {"call 4", OUTSIDE}, {"take -1", OUTSIDE}, {"take 6", OUTSIDE},
        {"discard -1", OUTSIDE}, {"discard 54", OUTSIDE}, {"announce -1", OUTSIDE}, {"announce 2", OUTSIDE},
        {"play -1", OUTSIDE}, {"play 54", OUTSIDE}, {"lowest 0", BAD_ARGUMENT}, {"lowest 49", BAD_ARGUMENT},
        {"hand -1", OUTSIDE}, {"hand 4", OUTSIDE}, {"talonAt -1", OUTSIDE}, {"talonAt 6", OUTSIDE},
        {"trickAt -1", OUTSIDE}, {"trickAt 3", OUTSIDE}, {"canPlay -1", OUTSIDE}, {"canPlay 54", OUTSIDE},
        {"valueOf -1", OUTSIDE}, {"valueOf 54", OUTSIDE}, {"thirds -1", OUTSIDE}, {"thirds 2", OUTSIDE},
        {"byPacks -1", OUTSIDE}, {"byPacks 2", OUTSIDE}, {"score -1", OUTSIDE}, {"score 4", OUTSIDE},
        {"radli -1", OUTSIDE}, {"radli 4", OUTSIDE}, {"knows -1 0", OUTSIDE}, {"knows 4 0", OUTSIDE},
        {"knows 0 -1", OUTSIDE}, {"knows 0 4", OUTSIDE},
    };

    /** Calls with arguments in range, and the phase without which they are refused. */
    private static final String[][] IN_ONE_PHASE_ONLY = {
        {"deal 0", "0"}, {"deal 65535", "0"}, {"bid 0", "1"}, {"bid 5", "1"}, {"call 0", "2"}, {"call 3", "2"},
        {"take 0", "3"}, {"take 5", "3"}, {"discard 0", "4"}, {"discard 53", "4"}, {"announce 0", "5"},
        {"announce 1", "5"}, {"play 0", "5"}, {"play 53", "5"}, {"lowest 1", "5"}, {"lowest 48", "5"},
    };

    private static final String[] DEALS = {
        "deal 0 bid 1 0 0 0 call 0 take 1 discard 6 21 12 announce 0 1" + " lowest 1".repeat(48),
        "deal 1 bid 0 1 2 0 3 0 call 3 take 5 discard 0 announce 1" + " lowest 1".repeat(48),
        "deal 40 bid 0 2 0 0 call 0 take 0 discard 1 5" + " lowest 3".repeat(16),
        "deal 65535 bid 1 2 3 4 0 0 0 take 3 discard 4 announce 0" + " lowest 5".repeat(10),
        "deal 7 bid 0 0 0 5 announce 0" + " lowest 7".repeat(7),
        "deal 8 bid 0 0 0 0 deal 9 bid 0 0 0 0 deal 10 bid 0 0 5 0" + " lowest 1".repeat(20),
    };

    public static void main(String[] args) {
        for (String deal : DEALS) {
            for (int from = 0; from < NEVER.length; from += 13) {
                alongADeal(stepsOf(deal), from);
            }
        }
        CHECKS.end("a call that throws changes nothing");
    }

    /** One call a step. */
    private static List<String> stepsOf(String deal) {
        List<String> steps = new ArrayList<>();
        String name = "";
        for (String word : deal.split(" ")) {
            if (Character.isDigit(word.charAt(0))) {
                steps.add(name + " " + word);
            } else {
                name = word;
            }
        }
        return steps;
    }

    private static void alongADeal(List<String> steps, int from) {
        TarockHall hall = new TarockHall();
        TarockHall twin = new TarockHall();
        int next = from;
        for (String step : steps) {
            for (int k = 0; k < TRIED_AT_EACH_STEP; k++) {
                refuse(hall, step, next++);
            }
            same(step, Answers.of(() -> Script.run(hall, step)), Answers.of(() -> Script.run(twin, step)));
        }
        same("the state behind " + steps, Answers.ofState(hall), Answers.ofState(twin));
        same("the way on behind " + steps, Script.finish(hall), Script.finish(twin));
    }

    private static void refuse(TarockHall hall, String ahead, int number) {
        int all = NEVER.length + IN_ONE_PHASE_ONLY.length;
        int k = number % all;
        if (k < NEVER.length) {
            same(NEVER[k][0] + " ahead of " + ahead, Answers.of(() -> Script.run(hall, NEVER[k][0])), NEVER[k][1]);
            return;
        }
        String[] call = IN_ONE_PHASE_ONLY[k - NEVER.length];
        if (hall.phase() != Integer.parseInt(call[1])) {
            same(call[0] + " ahead of " + ahead, Answers.of(() -> Script.run(hall, call[0])), BAD_STATE);
        }
    }

    private static void same(String what, String got, String due) {
        CHECKS.same("Exceptions: a call that throws changes nothing: " + what, got, due);
    }
}
