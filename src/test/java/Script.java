/**
 * Calls written as a text: "deal 0 bid 1 0 0 0 call 2 knows 0 3 turn" stands for deal(0), bid(1), bid(0), bid(0),
 * bid(0), call(2), knows(0, 3) and turn(); "lowest 48" stands for playLowest(48).
 */
final class Script {
    private Script() {
    }

    /** A new hall behind the calls of the text. */
    static TarockHall hall(String text) {
        TarockHall hall = new TarockHall();
        run(hall, text);
        return hall;
    }

    /** The answer to the last call of the text. A boolean counts 1 or 0. */
    static long run(TarockHall hall, String text) {
        String[] words = text.trim().split("\\s+");
        long answer = 0;
        String name = "";
        for (int k = 0; k < words.length; k++) {
            if (!isNumber(words[k])) {
                name = words[k];
            }
            if (isNumber(words[k]) && name.equals("knows")) {
                answer = hall.knows(Integer.parseInt(words[k]), Integer.parseInt(words[k + 1]));
                k++;
            } else if (isNumber(words[k])) {
                answer = call(hall, name, Integer.parseInt(words[k]));
            } else if (k + 1 == words.length || !isNumber(words[k + 1])) {
                answer = name.isEmpty() ? 0 : look(hall, name);
            }
        }
        return answer;
    }

    private static boolean isNumber(String word) {
        return word.matches("-?\\d+");
    }

    private static long call(TarockHall hall, String name, int n) {
        return switch (name) {
            case "deal" -> hall.deal(n);
            case "bid" -> hall.bid(n);
            case "call" -> hall.call(n);
            case "take" -> hall.take(n);
            case "discard" -> hall.discard(n);
            case "announce" -> hall.announce(n);
            case "play" -> hall.play(n);
            case "lowest" -> hall.playLowest(n);
            default -> lookAt(hall, name, n);
        };
    }

    private static long lookAt(TarockHall hall, String name, int n) {
        return switch (name) {
            case "hand" -> hall.hand(n);
            case "talonAt" -> hall.talonAt(n);
            case "trickAt" -> hall.trickAt(n);
            case "canPlay" -> hall.canPlay(n) ? 1 : 0;
            case "valueOf" -> hall.valueOf(n);
            case "thirds" -> hall.thirds(n);
            case "byPacks" -> hall.byPacks(n);
            case "score" -> hall.score(n);
            case "radli" -> hall.radli(n);
            default -> throw new AssertionError("no call " + name + " with one number");
        };
    }

    private static long look(TarockHall hall, String name) {
        return switch (name) {
            case "phase" -> hall.phase();
            case "turn" -> hall.turn();
            case "declarer" -> hall.declarer();
            case "level" -> hall.level();
            case "called" -> hall.called();
            case "partner" -> hall.partner();
            case "inTrick" -> hall.inTrick();
            case "tricks" -> hall.tricks();
            case "result" -> hall.result();
            default -> throw new AssertionError("no call " + name + " without a number");
        };
    }

    /**
     * Ends the deal that has begun, and deals the next one; the text tells each answer, so that it shows also what a
     * hall keeps to itself: who has passed, what is announced or was laid away, and who is the forehand.
     */
    static String finish(TarockHall hall) {
        StringBuilder answers = new StringBuilder();
        if (hall.phase() == TarockHall.BIDDING && hall.level() < 4) {
            note(answers, hall, "bid " + (hall.level() + 1));
        }
        for (int k = 0; k < 4 && hall.phase() == TarockHall.BIDDING; k++) {
            note(answers, hall, "bid 0");
        }
        if (hall.phase() == TarockHall.CALLING) {
            note(answers, hall, "call 1");
        }
        if (hall.phase() == TarockHall.TAKING) {
            note(answers, hall, "take 1");
        }
        for (int k = 0; k < 3 && hall.phase() == TarockHall.DISCARDING; k++) {
            note(answers, hall, "discard " + Game.lowestToLayAway(hall.hand(hall.declarer())));
        }
        if (hall.phase() == TarockHall.PLAYING) {
            answers.append(Answers.ofState(hall));
            note(answers, hall, "announce 0");
            note(answers, hall, "announce 1");
            note(answers, hall, "lowest 48");
        }
        answers.append(Answers.ofState(hall));
        note(answers, hall, "deal 12345");
        return answers.append(Answers.ofState(hall)).toString();
    }

    private static void note(StringBuilder answers, TarockHall hall, String call) {
        answers.append(call).append(": ").append(Answers.of(() -> run(hall, call))).append(", ");
    }
}
