/** Promises 7 to 9 and 16 to 21: announce, play, playLowest, and what there is to see of hands and tricks. */
public final class PlayTest {
    private static final Checks CHECKS = new Checks();

    public static void main(String[] args) {
        announcing();
        wrongAnnouncements();
        firstTricks();
        whoHasNeitherSuitNorTarock();
        highestOfTheSuitWins();
        wrongPlays();
        lowestCards();
        lowestToTheEnd();
        wrongPlayLowest();
        handsAndTalon();
        tricksOnTheTable();
        whatCanBePlayed();
        phasesAndTurns();
        CHECKS.end("promises 7 to 11 and 16 to 21");
    }

    private static void announcing() {
        TarockHall hall = Game.playing(0, 1, 0, 0);
        CHECKS.same("7: the first", hall.announce(TarockHall.KING), 1);
        CHECKS.same("7: the second", hall.announce(TarockHall.PAGAT), 2);
        TarockHall other = Game.playing(0, 3, 0, 0);
        CHECKS.same("7: PAGAT first", other.announce(TarockHall.PAGAT), 1);
        CHECKS.same("7: the turn stays", other.turn(), 0);
        CHECKS.same("7: KING second", other.announce(TarockHall.KING), 2);
        TarockHall five = Game.bidden(1, 5);
        CHECKS.same("7: PAGAT at level 5", five.announce(TarockHall.PAGAT), 1);
        TarockHall four = Game.bidden(1, 4);
        four.take(0);
        Game.layAwayLowest(four);
        CHECKS.same("7: PAGAT at level 4", four.announce(TarockHall.PAGAT), 1);
    }

    private static void wrongAnnouncements() {
        TarockHall hall = Game.playing(0, 1, 0, 0);
        CHECKS.outside("7: announce(-1)", hall, () -> hall.announce(-1));
        CHECKS.outside("7: announce(2)", hall, () -> hall.announce(2));
        hall.announce(TarockHall.PAGAT);
        CHECKS.badState("7: PAGAT twice", hall, () -> hall.announce(TarockHall.PAGAT));
        CHECKS.same("7: KING behind a refusal", hall.announce(TarockHall.KING), 2);
        TarockHall begun = Game.playing(0, 1, 0, 0);
        begun.playLowest(1);
        CHECKS.badState("7: a card was played", begun, () -> begun.announce(TarockHall.PAGAT));
        CHECKS.outside("7: the first line decides", begun, () -> begun.announce(2));
        begun.playLowest(3);
        CHECKS.same("7: no card is in the trick", begun.inTrick(), 0);
        CHECKS.badState("7: a trick is over", begun, () -> begun.announce(TarockHall.KING));
        TarockHall five = Game.bidden(0, 5);
        CHECKS.badState("7: KING at level 5", five, () -> five.announce(TarockHall.KING));
        TarockHall four = Game.bidden(0, 4);
        CHECKS.badState("7: PAGAT in TAKING", four, () -> four.announce(TarockHall.PAGAT));
        four.take(0);
        CHECKS.badState("7: PAGAT in DISCARDING", four, () -> four.announce(TarockHall.PAGAT));
        Game.layAwayLowest(four);
        CHECKS.badState("7: KING at level 4", four, () -> four.announce(TarockHall.KING));
        TarockHall fresh = new TarockHall();
        CHECKS.outside("7: announce(2) in OVER", fresh, () -> fresh.announce(2));
        CHECKS.badState("7: PAGAT in OVER", fresh, () -> fresh.announce(TarockHall.PAGAT));
        TarockHall played = Game.bidden(0, 5);
        played.playLowest(48);
        CHECKS.badState("7: PAGAT behind the deal", played, () -> played.announce(TarockHall.PAGAT));
    }

    private static void firstTricks() {
        TarockHall hall = Game.bidden(2, 5);
        CHECKS.same("8: the forehand leads", hall.play(8), TarockHall.NONE);
        CHECKS.badState("8: player 1 has the suit", hall, () -> hall.play(34));
        CHECKS.same("8: the king of the suit", hall.play(15), TarockHall.NONE);
        CHECKS.badState("8: player 2 has tarocks", hall, () -> hall.play(17));
        CHECKS.same("8: the pagat", hall.play(32), TarockHall.NONE);
        CHECKS.same("8: the pagat beats the king", hall.play(9), 2);
        CHECKS.same("8: the winner leads", hall.turn(), 2);
        CHECKS.same("8: tricks", hall.tricks(), 1);
        CHECKS.same("8: thirds of the trick", hall.thirds(0), 1 + 13 + 13 + 1);
        CHECKS.same("8: a tarock is led", hall.play(33), TarockHall.NONE);
        CHECKS.badState("8: player 3 has tarocks", hall, () -> hall.play(3));
        CHECKS.same("8: a higher tarock", hall.play(50), TarockHall.NONE);
        CHECKS.same("8: the highest tarock", hall.play(51), TarockHall.NONE);
        CHECKS.same("8: a tarock below", hall.play(34), 0);
        CHECKS.same("8: the hands have shrunk", hall.hand(0), Game.setOf(0, 6, 10, 12, 16, 18, 21, 26, 31, 37));
    }

    private static void whoHasNeitherSuitNorTarock() {
        TarockHall hall = Game.bidden(3, 5);
        Game.play(hall, 37, 34, 32, 38, 46, 51, 36, 33, 26, 24, 27, 29);
        CHECKS.same("8: player 3 leads", hall.turn(), 3);
        CHECKS.same("8: three tricks", hall.tricks(), 3);
        hall.play(41);
        long any = Game.setOf(0, 6, 8, 10, 12, 16, 18, 21, 31);
        CHECKS.same("8: player 0 has no tarock", hall.hand(0), any);
        for (int card = 0; card < 54; card++) {
            CHECKS.same("20: any card of the hand, " + card, hall.canPlay(card) ? 1 : 0, any >> card & 1);
        }
        CHECKS.same("8: a king is thrown in", hall.play(31), TarockHall.NONE);
        CHECKS.same("8: tarock 40 is below", hall.play(40), TarockHall.NONE);
        CHECKS.same("8: tarock 42 wins", hall.play(42), 2);
    }

    private static void highestOfTheSuitWins() {
        TarockHall hall = Game.bidden(0, 5);
        Game.play(hall, 26, 24, 27);
        CHECKS.same("8: rank 5 of suit 3 wins", hall.play(29), 3);
        TarockHall king = Game.bidden(0, 5);
        Game.play(king, 31, 30, 27);
        CHECKS.same("8: the leader wins by the king", king.play(29), 0);
        TarockHall thrown = Game.bidden(0, 5);
        Game.play(thrown, 37, 34, 32, 38, 46, 51, 36, 33, 6, 5, 1);
        CHECKS.same("8: the king takes the queen", thrown.play(7), 3);
        Game.play(thrown, 41, 0, 40, 39, 29, 26, 30, 27);
        CHECKS.same("8: player 1 wins with the queen", thrown.turn(), 1);
    }

    private static void wrongPlays() {
        TarockHall fresh = new TarockHall();
        CHECKS.outside("8: play(54) in OVER", fresh, () -> fresh.play(54));
        CHECKS.outside("8: play(-1) in OVER", fresh, () -> fresh.play(-1));
        CHECKS.badState("8: play in OVER", fresh, () -> fresh.play(0));
        TarockHall hall = Game.bidden(0, 5);
        CHECKS.outside("8: play(54)", hall, () -> hall.play(54));
        CHECKS.outside("8: play(64)", hall, () -> hall.play(64));
        CHECKS.badState("8: another's card", hall, () -> hall.play(2));
        TarockHall bidding = Game.dealt(0);
        CHECKS.badState("8: play in BIDDING", bidding, () -> bidding.play(0));
        TarockHall discarding = Game.taken(0, 1, 0, 0);
        CHECKS.badState("8: play in DISCARDING", discarding, () -> discarding.play(0));
        TarockHall played = Game.bidden(0, 5);
        played.play(0);
        CHECKS.badState("8: a card that was played", played, () -> played.play(0));
        played.playLowest(48);
        CHECKS.badState("8: play behind the deal", played, () -> played.play(0));
    }

    private static void lowestCards() {
        TarockHall hall = Game.bidden(0, 5);
        CHECKS.same("9: one card", hall.playLowest(1), 1);
        CHECKS.same("9: the lowest of all", hall.trickAt(0), 0);
        CHECKS.same("9: two cards", hall.playLowest(2), 2);
        CHECKS.same("9: the lowest of the suit", hall.trickAt(1), 2);
        CHECKS.same("9: the lowest of the suit", hall.trickAt(2), 1);
        CHECKS.same("9: over the end of a trick", hall.playLowest(3), 3);
        CHECKS.same("9: player 3 has won with card 3, and led card 4", hall.trickAt(0), 4);
        CHECKS.same("9: player 0 follows with the queen", hall.trickAt(1), 6);
        TarockHall tarock = Game.bidden(0, 5);
        tarock.play(8);
        tarock.playLowest(2);
        CHECKS.same("9: the lowest tarock", tarock.trickAt(2), 32);
    }

    private static void lowestToTheEnd() {
        TarockHall hall = Game.bidden(0, 5);
        CHECKS.same("9: all but one", hall.playLowest(47), 47);
        CHECKS.same("9: phase ahead of the end", hall.phase(), TarockHall.PLAYING);
        CHECKS.same("9: the last alone", hall.playLowest(48), 1);
        CHECKS.same("9: phase at the end", hall.phase(), TarockHall.OVER);
        CHECKS.same("9: all in one call", Game.bidden(0, 5).playLowest(48), 48);
    }

    private static void wrongPlayLowest() {
        TarockHall fresh = new TarockHall();
        CHECKS.badArgument("9: playLowest(0) in OVER", fresh, () -> fresh.playLowest(0));
        CHECKS.badArgument("9: playLowest(49) in OVER", fresh, () -> fresh.playLowest(49));
        CHECKS.badState("9: playLowest in OVER", fresh, () -> fresh.playLowest(48));
        TarockHall hall = Game.bidden(0, 5);
        CHECKS.badArgument("9: playLowest(0)", hall, () -> hall.playLowest(0));
        CHECKS.badArgument("9: playLowest(49)", hall, () -> hall.playLowest(49));
        CHECKS.badArgument("9: playLowest(least int)", hall, () -> hall.playLowest(Integer.MIN_VALUE));
        TarockHall taking = Game.called(0, 1, 0);
        CHECKS.badState("9: playLowest in TAKING", taking, () -> taking.playLowest(1));
        hall.playLowest(48);
        CHECKS.badState("9: playLowest behind the deal", hall, () -> hall.playLowest(1));
    }

    private static void handsAndTalon() {
        TarockHall hall = Game.bidden(0, 5);
        CHECKS.outside("16: hand(-1)", hall, () -> hall.hand(-1));
        CHECKS.outside("16: hand(4)", hall, () -> hall.hand(4));
        CHECKS.outside("17: talonAt(-1)", hall, () -> hall.talonAt(-1));
        TarockHall fresh = new TarockHall();
        CHECKS.outside("17: talonAt(6) without a deal", fresh, () -> fresh.talonAt(6));
        CHECKS.badState("17: talonAt(5) without a deal", fresh, () -> fresh.talonAt(5));
        hall.playLowest(48);
        for (int player = 0; player < 4; player++) {
            CHECKS.same("16: nothing is left", hall.hand(player), 0);
        }
        CHECKS.outside("17: talonAt(6)", hall, () -> hall.talonAt(6));
        for (int place = 0; place < 6; place++) {
            CHECKS.same("17: the talon behind the deal", hall.talonAt(place), Game.TALON_OF_0[place]);
        }
    }

    private static void tricksOnTheTable() {
        TarockHall hall = Game.bidden(0, 5);
        CHECKS.same("18: none ahead", hall.inTrick(), 0);
        CHECKS.outside("19: trickAt(0) of none", hall, () -> hall.trickAt(0));
        int[] cards = {26, 24, 27};
        for (int k = 0; k < 3; k++) {
            hall.play(cards[k]);
            CHECKS.same("18: cards in the trick", hall.inTrick(), k + 1);
            CHECKS.same("19: the latest", hall.trickAt(k), cards[k]);
            CHECKS.same("19: the one that was led", hall.trickAt(0), 26);
            CHECKS.same("21: no trick is over", hall.tricks(), 0);
        }
        CHECKS.outside("19: trickAt(3) of three", hall, () -> hall.trickAt(3));
        CHECKS.outside("19: trickAt(-1)", hall, () -> hall.trickAt(-1));
        hall.play(29);
        CHECKS.same("18: the trick is over", hall.inTrick(), 0);
        CHECKS.same("21: one trick", hall.tricks(), 1);
        CHECKS.outside("19: trickAt(0) behind the trick", hall, () -> hall.trickAt(0));
        hall.playLowest(48);
        CHECKS.same("18: none behind the deal", hall.inTrick(), 0);
        CHECKS.same("21: twelve tricks behind the deal", hall.tricks(), 12);
    }

    private static void whatCanBePlayed() {
        TarockHall hall = Game.bidden(1, 5);
        for (int card = 0; card < 54; card++) {
            long due = Game.setOf(Game.HANDS_OF_0[0]) >> card & 1;
            CHECKS.same("20: the leader can play " + card, hall.canPlay(card) ? 1 : 0, due);
        }
        hall.play(8);
        for (int card = 0; card < 54; card++) {
            CHECKS.same("20: the suit is followed, " + card, hall.canPlay(card) ? 1 : 0, card == 15 ? 1 : 0);
        }
        hall.play(15);
        long tarocks = Game.setOf(32, 33, 39, 42, 43, 45, 49);
        for (int card = 0; card < 54; card++) {
            CHECKS.same("20: tarocks only, " + card, hall.canPlay(card) ? 1 : 0, tarocks >> card & 1);
        }
        CHECKS.outside("20: canPlay(-1)", hall, () -> hall.canPlay(-1) ? 1 : 0);
        CHECKS.outside("20: canPlay(54)", hall, () -> hall.canPlay(54) ? 1 : 0);
        TarockHall[] others = {new TarockHall(), Game.dealt(0), Game.bidden(0, 1), Game.called(0, 1, 0),
            Game.taken(0, 1, 0, 0)};
        for (TarockHall other : others) {
            for (int card = 0; card < 54; card++) {
                CHECKS.holds("20: never in phase " + other.phase(), !other.canPlay(card));
            }
            CHECKS.outside("20: canPlay(54) in phase " + other.phase(), other, () -> other.canPlay(54) ? 1 : 0);
        }
    }

    private static void phasesAndTurns() {
        TarockHall hall = new TarockHall();
        hall.deal(0);
        checkPhase(hall, TarockHall.BIDDING, 0);
        hall.bid(0);
        checkPhase(hall, TarockHall.BIDDING, 1);
        hall.bid(1);
        hall.bid(0);
        hall.bid(0);
        checkPhase(hall, TarockHall.CALLING, 1);
        hall.call(0);
        checkPhase(hall, TarockHall.TAKING, 1);
        hall.take(0);
        checkPhase(hall, TarockHall.DISCARDING, 1);
        Game.layAwayLowest(hall);
        checkPhase(hall, TarockHall.PLAYING, 0);
        hall.playLowest(1);
        checkPhase(hall, TarockHall.PLAYING, 1);
        hall.playLowest(48);
        checkPhase(hall, TarockHall.OVER, TarockHall.NONE);
        CHECKS.same("12: declarer behind the deal", hall.declarer(), 1);
        CHECKS.same("13: level behind the deal", hall.level(), 1);
        CHECKS.same("14: called behind the deal", hall.called(), 0);
        CHECKS.same("15: partner behind the deal", hall.partner(), 3);
        TarockHall alone = Game.bidden(2, 5);
        CHECKS.same("12: declarer at level 5", alone.declarer(), 2);
        CHECKS.same("13: level 5", alone.level(), 5);
        CHECKS.same("14: called at level 5", alone.called(), TarockHall.NONE);
        CHECKS.same("15: partner at level 5", alone.partner(), TarockHall.NONE);
    }

    private static void checkPhase(TarockHall hall, int phase, int turn) {
        CHECKS.same("10: phase", hall.phase(), phase);
        CHECKS.same("11: turn in phase " + phase, hall.turn(), turn);
    }
}
