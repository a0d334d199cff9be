/** Promise 28: knows. A row below is what a player knows of the players 0 to 3; a dot stands for NONE. */
public final class KnowsTest {
    private static final Checks CHECKS = new Checks();

    public static void main(String[] args) {
        partnerIsHidden();
        ownKingIsHidden();
        kingInTheTalon();
        gamesAlone();
        withoutDeclarer();
        wrongPlayers();
        CHECKS.end("promise 28");
    }

    private static void partnerIsHidden() {
        TarockHall hall = Game.bidden(0, 1);
        check("in CALLING", hall, "....", "....", "....", "....");
        hall.call(0);
        String[] hidden = {"0...", "01..", "0.1.", "0110"};
        check("in TAKING", hall, hidden);
        hall.take(0);
        check("in DISCARDING", hall, hidden);
        Game.layAwayLowest(hall);
        check("in PLAYING", hall, hidden);
        Game.play(hall, 26, 24, 27, 29);
        check("behind a trick without the king", hall, hidden);
        hall.play(7);
        check("as soon as the king is led", hall, "0110", "0110", "0110", "0110");
        TarockHall follow = Game.playing(2, 2, 0, 2);
        String[] ofTwo = {"1.0.", ".10.", "..0.", "1100"};
        check("with declarer 2", follow, ofTwo);
        Game.play(follow, 0, 2, 32);
        check("with three cards in the trick", follow, ofTwo);
        follow.play(7);
        check("when the king is the last of a trick", follow, "1100", "1100", "1100", "1100");
    }

    private static void ownKingIsHidden() {
        TarockHall hall = Game.called(0, 2, 3);
        String[] hidden = {"0111", "01..", "0.1.", "0..1"};
        check("with the own king", hall, hidden);
        hall.take(1);
        Game.layAwayLowest(hall);
        check("ahead of the king", hall, hidden);
        hall.play(31);
        check("as soon as the king lies in a trick", hall, "0111", "0111", "0111", "0111");
        hall.playLowest(48);
        check("behind the deal", hall, "0111", "0111", "0111", "0111");
        hall.deal(0);
        check("in the next deal", hall, "....", "....", "....", "....");
    }

    private static void kingInTheTalon() {
        TarockHall hall = Game.called(1, 1, 2);
        String[] open = {"1011", "1011", "1011", "1011"};
        check("with the king in the talon", hall, open);
        hall.take(1);
        check("with the king taken", hall, open);
        Game.layAwayLowest(hall);
        check("with the king in hand", hall, open);
        TarockHall left = Game.taken(1, 1, 2, 0);
        check("with the king left in the talon", left, open);
    }

    private static void gamesAlone() {
        TarockHall four = Game.bidden(3, 4);
        String[] open = {"1110", "1110", "1110", "1110"};
        check("in TAKING at level 4", four, open);
        TarockHall five = Game.bidden(3, 5);
        check("in PLAYING at level 5", five, open);
        five.playLowest(48);
        check("behind a deal at level 5", five, open);
    }

    private static void withoutDeclarer() {
        TarockHall hall = new TarockHall();
        check("without a deal", hall, "....", "....", "....", "....");
        hall.deal(0);
        hall.bid(5);
        check("in BIDDING", hall, "....", "....", "....", "....");
        TarockHall passed = Game.dealt(0);
        Game.bidAlone(passed, TarockHall.NONE, 0);
        check("when all have passed", passed, "....", "....", "....", "....");
    }

    private static void wrongPlayers() {
        TarockHall hall = Game.called(0, 1, 0);
        CHECKS.outside("28: knows(-1, 0)", hall, () -> hall.knows(-1, 0));
        CHECKS.outside("28: knows(4, 0)", hall, () -> hall.knows(4, 0));
        CHECKS.outside("28: knows(0, -1)", hall, () -> hall.knows(0, -1));
        TarockHall fresh = new TarockHall();
        CHECKS.outside("28: knows(0, 4) without a deal", fresh, () -> fresh.knows(0, 4));
        CHECKS.outside("28: knows(4, 4) without a deal", fresh, () -> fresh.knows(4, 4));
    }

    private static void check(String when, TarockHall hall, String... rows) {
        for (int player = 0; player < 4; player++) {
            for (int other = 0; other < 4; other++) {
                char due = rows[player].charAt(other);
                String what = "28: knows(" + player + ", " + other + ") " + when;
                CHECKS.same(what, hall.knows(player, other), due == '.' ? TarockHall.NONE : due - '0');
            }
        }
    }
}
