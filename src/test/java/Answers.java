/** Answers as texts, so that a number and an exception can be compared alike. */
final class Answers {
    private Answers() {
    }

    static String of(Checks.Call call) {
        try {
            return Long.toString(call.answer());
        } catch (RuntimeException e) {
            return "throws." + e.getClass().getSimpleName();
        }
    }

    /** All that the hall tells of itself, less canPlay, which follows from the rest: 51 calls. */
    static String ofState(TarockHall hall) {
        StringBuilder text = new StringBuilder();
        text.append("phase ").append(hall.phase()).append(" turn ").append(hall.turn());
        text.append(" declarer ").append(hall.declarer()).append(" level ").append(hall.level());
        text.append(" called ").append(hall.called()).append(" partner ").append(hall.partner());
        text.append(" inTrick ").append(hall.inTrick()).append(" tricks ").append(hall.tricks());
        text.append(" result ").append(hall.result());
        for (int place = 0; place < 6; place++) {
            int at = place;
            text.append(" talon ").append(of(() -> hall.talonAt(at)));
        }
        for (int place = 0; place < 4; place++) {
            int at = place;
            text.append(" trick ").append(of(() -> hall.trickAt(at)));
        }
        for (int side = 0; side < 2; side++) {
            text.append(" thirds ").append(hall.thirds(side)).append(" packs ").append(hall.byPacks(side));
        }
        for (int player = 0; player < 4; player++) {
            text.append(" hand ").append(hall.hand(player));
            text.append(" score ").append(hall.score(player)).append(" radli ").append(hall.radli(player));
            for (int other = 0; other < 4; other++) {
                text.append(" knows ").append(hall.knows(player, other));
            }
        }
        return text.toString();
    }
}
