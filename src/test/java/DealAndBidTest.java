/** Promises 1 to 3: a new object, deal, bid. */
public final class DealAndBidTest {
    private static final Checks CHECKS = new Checks();

    public static void main(String[] args) {
        newObject();
        handsOfADeal();
        forehandGoesOn();
        dealClearsTheLatest();
        wrongDeals();
        everyoneBids();
        lastOneMayBid();
        allPass();
        phaseByLevel();
        wrongBids();
        CHECKS.end("promises 1 to 3");
    }

    private static void newObject() {
        TarockHall hall = new TarockHall();
        CHECKS.same("1: phase", hall.phase(), TarockHall.OVER);
        CHECKS.same("1: turn", hall.turn(), TarockHall.NONE);
        CHECKS.same("1: declarer", hall.declarer(), TarockHall.NONE);
        CHECKS.same("1: level", hall.level(), 0);
        CHECKS.same("1: called", hall.called(), TarockHall.NONE);
        CHECKS.same("1: partner", hall.partner(), TarockHall.NONE);
        CHECKS.same("1: inTrick", hall.inTrick(), 0);
        CHECKS.same("1: tricks", hall.tricks(), 0);
        CHECKS.same("1: result", hall.result(), 0);
        for (int player = 0; player < 4; player++) {
            CHECKS.same("1: score", hall.score(player), 0);
            CHECKS.same("1: radli", hall.radli(player), 0);
            CHECKS.same("1: hand", hall.hand(player), 0);
            CHECKS.same("1: knows", hall.knows(player, 3 - player), TarockHall.NONE);
        }
        for (int side = 0; side < 2; side++) {
            CHECKS.same("1: thirds", hall.thirds(side), 0);
            CHECKS.same("1: byPacks", hall.byPacks(side), 0);
        }
        CHECKS.badState("1: talonAt without a deal", hall, () -> hall.talonAt(0));
        CHECKS.badState("1: bid without a deal", hall, () -> hall.bid(0));
    }

    private static void handsOfADeal() {
        TarockHall hall = new TarockHall();
        CHECKS.same("2: the first forehand", hall.deal(0), 0);
        CHECKS.same("2: phase", hall.phase(), TarockHall.BIDDING);
        CHECKS.same("2: turn", hall.turn(), 0);
        for (int player = 0; player < 4; player++) {
            CHECKS.same("2: hand " + player, hall.hand(player), Game.setOf(Game.HANDS_OF_0[player]));
        }
        for (int place = 0; place < 6; place++) {
            CHECKS.same("2: talon " + place, hall.talonAt(place), Game.TALON_OF_0[place]);
        }
        CHECKS.same("2: the greatest number", new TarockHall().deal(65535), 0);
        TarockHall greatest = Game.dealt(65535);
        CHECKS.same("2: hand of the greatest number", greatest.hand(0), 22059364266114L);
        CHECKS.same("2: hand of the greatest number", greatest.hand(3), 563232352322096L);
        CHECKS.same("2: talon of the greatest number", greatest.talonAt(5), 50);
    }

    private static void forehandGoesOn() {
        TarockHall hall = new TarockHall();
        for (int k = 0; k < 6; k++) {
            int forehand = k % 4;
            CHECKS.same("2: forehand of deal " + k, hall.deal(0), forehand);
            CHECKS.same("2: turn of deal " + k, hall.turn(), forehand);
            for (int seat = 0; seat < 4; seat++) {
                long due = Game.setOf(Game.HANDS_OF_0[seat]);
                CHECKS.same("2: hand in deal " + k, hall.hand((forehand + seat) % 4), due);
            }
            Game.bidAlone(hall, TarockHall.NONE, 0);
        }
    }

    private static void dealClearsTheLatest() {
        TarockHall hall = Game.playing(0, 1, 0, 0);
        hall.announce(TarockHall.KING);
        hall.announce(TarockHall.PAGAT);
        hall.playLowest(48);
        int result = hall.result();
        int score = hall.score(0);
        hall.deal(0);
        CHECKS.same("2: declarer", hall.declarer(), TarockHall.NONE);
        CHECKS.same("2: level", hall.level(), 0);
        CHECKS.same("2: called", hall.called(), TarockHall.NONE);
        CHECKS.same("2: partner", hall.partner(), TarockHall.NONE);
        CHECKS.same("2: tricks", hall.tricks(), 0);
        CHECKS.same("2: inTrick", hall.inTrick(), 0);
        CHECKS.same("2: thirds", hall.thirds(0) + hall.thirds(1), 0);
        CHECKS.same("2: byPacks", hall.byPacks(0) + hall.byPacks(1), 0);
        CHECKS.same("2: knows", hall.knows(0, 0), TarockHall.NONE);
        CHECKS.same("2: the result stays", hall.result(), result);
        CHECKS.same("2: the score stays", hall.score(0), score);
        Game.upToPlaying(hall, 3, 5, 0, 0);
        CHECKS.same("2: what was laid away is cleared", hall.thirds(0), 0);
        CHECKS.same("2: birds are cleared", hall.announce(TarockHall.PAGAT), 1);
    }

    private static void wrongDeals() {
        TarockHall fresh = new TarockHall();
        CHECKS.badArgument("2: deal(-1)", fresh, () -> fresh.deal(-1));
        CHECKS.badArgument("2: deal(65536)", fresh, () -> fresh.deal(65536));
        CHECKS.badArgument("2: deal(least int)", fresh, () -> fresh.deal(Integer.MIN_VALUE));
        CHECKS.same("2: no deal was counted", fresh.deal(1), 0);
        TarockHall begun = Game.dealt(0);
        CHECKS.badArgument("2: the first line decides", begun, () -> begun.deal(65536));
        CHECKS.badState("2: deal in BIDDING", begun, () -> begun.deal(0));
        TarockHall calling = Game.bidden(0, 1);
        CHECKS.badState("2: deal in CALLING", calling, () -> calling.deal(0));
        TarockHall taking = Game.called(0, 1, 0);
        CHECKS.badState("2: deal in TAKING", taking, () -> taking.deal(0));
        TarockHall discarding = Game.taken(0, 1, 0, 0);
        CHECKS.badState("2: deal in DISCARDING", discarding, () -> discarding.deal(0));
        TarockHall playing = Game.bidden(0, 5);
        CHECKS.badState("2: deal in PLAYING", playing, () -> playing.deal(0));
    }

    private static void everyoneBids() {
        TarockHall hall = Game.dealt(0);
        int[] levels = {1, 2, 0, 3, 0, 4, 5};
        int[] bidders = {0, 1, 2, 3, 0, 1, 3};
        int[] highest = {1, 2, 2, 3, 3, 4, 5};
        for (int k = 0; k < levels.length; k++) {
            CHECKS.same("3: turn " + k, hall.turn(), bidders[k]);
            CHECKS.same("3: bid " + k, hall.bid(levels[k]), TarockHall.BIDDING);
            CHECKS.same("3: level behind " + k, hall.level(), highest[k]);
            CHECKS.same("3: no declarer yet", hall.declarer(), TarockHall.NONE);
        }
        CHECKS.same("3: turn at last", hall.turn(), 1);
        CHECKS.same("3: the last pass", hall.bid(0), TarockHall.PLAYING);
        CHECKS.same("3: declarer", hall.declarer(), 3);
        CHECKS.same("3: level", hall.level(), 5);
        CHECKS.same("3: the forehand leads", hall.turn(), 0);
    }

    private static void lastOneMayBid() {
        TarockHall hall = Game.dealt(0);
        for (int k = 0; k < 3; k++) {
            CHECKS.same("3: pass " + k, hall.bid(0), TarockHall.BIDDING);
        }
        CHECKS.same("3: turn of the last", hall.turn(), 3);
        CHECKS.same("3: the last bids", hall.bid(2), TarockHall.CALLING);
        CHECKS.same("3: declarer", hall.declarer(), 3);
        CHECKS.same("3: level", hall.level(), 2);
    }

    private static void allPass() {
        TarockHall hall = Game.dealt(0);
        for (int k = 0; k < 3; k++) {
            hall.bid(0);
        }
        CHECKS.same("3: the fourth pass", hall.bid(0), TarockHall.OVER);
        CHECKS.same("3: turn", hall.turn(), TarockHall.NONE);
        CHECKS.same("3: declarer", hall.declarer(), TarockHall.NONE);
        CHECKS.same("3: level", hall.level(), 0);
        CHECKS.same("3: result", hall.result(), 0);
        CHECKS.same("3: the hands stay", hall.hand(2), Game.setOf(Game.HANDS_OF_0[2]));
        CHECKS.same("3: thirds", hall.thirds(0) + hall.thirds(1), 0);
        for (int player = 0; player < 4; player++) {
            CHECKS.same("3: score", hall.score(player), 0);
            CHECKS.same("3: radli", hall.radli(player), 0);
            CHECKS.same("3: knows", hall.knows(player, player), TarockHall.NONE);
        }
    }

    private static void phaseByLevel() {
        int[] phases = {0, TarockHall.CALLING, TarockHall.CALLING, TarockHall.CALLING, TarockHall.TAKING,
            TarockHall.PLAYING};
        for (int level = 1; level <= 5; level++) {
            TarockHall hall = Game.dealt(0);
            hall.bid(0);
            hall.bid(level);
            hall.bid(0);
            CHECKS.same("3: phase at level " + level, hall.bid(0), phases[level]);
            CHECKS.same("3: declarer at level " + level, hall.declarer(), 1);
            CHECKS.same("3: turn at level " + level, hall.turn(), level == 5 ? 0 : 1);
        }
    }

    private static void wrongBids() {
        TarockHall fresh = new TarockHall();
        CHECKS.badArgument("3: bid(6) in OVER", fresh, () -> fresh.bid(6));
        CHECKS.badArgument("3: bid(-1) in OVER", fresh, () -> fresh.bid(-1));
        CHECKS.badState("3: bid(1) in OVER", fresh, () -> fresh.bid(1));
        TarockHall hall = Game.dealt(0);
        hall.bid(3);
        CHECKS.badArgument("3: bid(6)", hall, () -> hall.bid(6));
        CHECKS.badState("3: bid the same", hall, () -> hall.bid(3));
        TarockHall lower = Game.dealt(0);
        lower.bid(3);
        CHECKS.badState("3: bid less", lower, () -> lower.bid(1));
        CHECKS.same("3: the next level", lower.bid(4), TarockHall.BIDDING);
        CHECKS.same("3: a pass is never too low", lower.bid(0), TarockHall.BIDDING);
        TarockHall calling = Game.bidden(0, 1);
        CHECKS.badState("3: bid in CALLING", calling, () -> calling.bid(0));
        TarockHall playing = Game.bidden(0, 5);
        CHECKS.badState("3: bid in PLAYING", playing, () -> playing.bid(0));
    }
}
