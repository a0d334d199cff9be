/** Promises 10 to 16 and 18 to 21: what there is to see of a deal, each sentence with its boundary cases. */
public final class EdgesOfLooksTest {
    private static final Edges EDGES = new Edges();
    private static final String PASSED = "deal 0 bid 0 0 0 0 ";
    private static final String LEVEL_1 = "deal 0 bid 1 0 0 0 ";
    private static final String LEVEL_4 = "deal 0 bid 4 0 0 0 ";
    private static final String LEVEL_5 = "deal 0 bid 5 0 0 0 ";
    private static final String TAKEN_1 = LEVEL_1 + "call 0 take 0 ";
    private static final String PLAY_1 = TAKEN_1 + "discard 6 8 10 ";

    public static void main(String[] args) {
        phases();
        turnToBidOrPlay();
        turnOfTheDeclarer();
        noTurnWhenOver();
        declarerOfTheLatestDeal();
        noDeclarerAsLongAsThereIsNone();
        levelOfTheLatestDeal();
        levelWithoutABid();
        calledInTheLatestDeal();
        nothingCalled();
        partnerInTheLatestDeal();
        noPartner();
        playersFromZeroTo3();
        noSuchPlayer();
        handsInTheCourseOfADeal();
        handsUntilTheNextDeal();
        cardCountsTwoToItsPower();
        cardsInTheTrick();
        placesOfTheTrick();
        noSuchCardInTheTrick();
        cardsForCanPlay();
        noSuchCardForCanPlay();
        canPlayAsPlayWould();
        falseInOtherPhases();
        tricksThatAreOver();
        tricksOfTheLatestDeal();
        EDGES.end("boundary cases of promises 10 to 16 and 18 to 21");
    }

    private static void phases() {
        EDGES.sentence("10: returns the phase");
        EDGES.due("", "phase", 0);
        EDGES.due("deal 0", "phase", 1);
        EDGES.due("deal 0 bid 0 0 0", "phase", 1);
        EDGES.due(PASSED, "phase", 0);
        EDGES.due(LEVEL_1, "phase", 2);
        EDGES.due(LEVEL_1 + "call 0", "phase", 3);
        EDGES.due(LEVEL_4, "phase", 3);
        EDGES.due(TAKEN_1, "phase", 4);
        EDGES.due(TAKEN_1 + "discard 6 8", "phase", 4);
        EDGES.due(PLAY_1, "phase", 5);
        EDGES.due(LEVEL_5, "phase", 5);
        EDGES.due(LEVEL_5 + "lowest 47", "phase", 5);
        EDGES.due(LEVEL_5 + "lowest 48", "phase", 0);
        EDGES.due(LEVEL_5 + "lowest 48 deal 0", "phase", 1);
    }

    private static void turnToBidOrPlay() {
        EDGES.sentence("11: the player whose turn it is to bid or play");
        EDGES.shows("deal 0", "turn 0, bid 1 1, turn 1, bid 0 1, turn 2, bid 0 1, turn 3");
        EDGES.shows(PASSED.repeat(3) + "deal 0", "turn 3, bid 1 1, turn 0, bid 0 1, turn 1, bid 2 1, turn 2, bid 0 1, "
            + "turn 3, bid 0 2, turn 1");
        EDGES.shows(LEVEL_5, "turn 0, lowest 1 1, turn 1, lowest 2 2, turn 3, lowest 1 1, turn 3, lowest 1 1, turn 0");
        EDGES.shows(LEVEL_5, "lowest 47 47, turn 2");
    }

    private static void turnOfTheDeclarer() {
        EDGES.sentence("11: or the declarer in the phases CALLING, TAKING and DISCARDING");
        for (int declarer = 0; declarer < 4; declarer++) {
            String bids = "deal 0 bid" + " 0".repeat(declarer) + " 1" + " 0".repeat(3 - declarer);
            EDGES.due(bids, "turn", declarer);
            EDGES.due(bids + " call 0", "turn", declarer);
            EDGES.due(bids + " call 0 take 0", "turn", declarer);
        }
        EDGES.shows("deal 0 bid 0 0 0 4", "phase 3, turn 3, take 0 1, turn 3, discard 3 0, turn 0");
        EDGES.shows("deal 0 bid 0 0 1 0 call 0 take 0", "turn 2, discard 1 2, turn 2, discard 17 1, turn 2, "
            + "discard 19 0, turn 0");
    }

    private static void noTurnWhenOver() {
        EDGES.sentence("11: NONE if it is OVER");
        EDGES.due("", "turn", TarockHall.NONE);
        EDGES.due(PASSED, "turn", TarockHall.NONE);
        EDGES.due(LEVEL_5 + "lowest 48", "turn", TarockHall.NONE);
        EDGES.due(PLAY_1 + "lowest 48", "turn", TarockHall.NONE);
    }

    private static void declarerOfTheLatestDeal() {
        EDGES.sentence("12: the declarer of the latest deal");
        for (int declarer = 0; declarer < 4; declarer++) {
            EDGES.due("deal 0 bid" + " 0".repeat(declarer) + " 5" + " 0".repeat(3 - declarer), "declarer", declarer);
        }
        EDGES.shows("deal 0 bid 0 0 5 0", "declarer 2, lowest 47 47, declarer 2, lowest 1 1, phase 0, declarer 2");
        EDGES.shows(LEVEL_1, "declarer 0, call 0 3, declarer 0, take 0 3, declarer 0");
    }

    private static void noDeclarerAsLongAsThereIsNone() {
        EDGES.sentence("12: NONE as long as there is none");
        EDGES.due("", "declarer", TarockHall.NONE);
        EDGES.due("deal 0 bid 5 0 0", "declarer", TarockHall.NONE);
        EDGES.due("deal 0 bid 0 0 0", "declarer", TarockHall.NONE);
        EDGES.due(PASSED, "declarer", TarockHall.NONE);
        EDGES.due(LEVEL_5 + "lowest 48 deal 0", "declarer", TarockHall.NONE);
        EDGES.due(LEVEL_5 + "lowest 48 deal 0 bid 0 0 0 0", "declarer", TarockHall.NONE);
    }

    private static void levelOfTheLatestDeal() {
        EDGES.sentence("13: the highest level that was bid in the latest deal");
        EDGES.shows("deal 0", "bid 1 1, level 1, bid 0 1, level 1, bid 3 1, level 3, bid 5 1, level 5, bid 0 1, "
            + "level 5");
        EDGES.shows("deal 0 bid 1 2 0 0 0", "level 2, phase 2, call 0 3, level 2, take 0 2, level 2");
        EDGES.due(LEVEL_5 + "lowest 48", "level", 5);
        EDGES.due(LEVEL_4 + "take 0 discard 0 lowest 48", "level", 4);
    }

    private static void levelWithoutABid() {
        EDGES.sentence("13: 0 without a bid");
        EDGES.due("", "level", 0);
        EDGES.due("deal 0", "level", 0);
        EDGES.due("deal 0 bid 0 0 0", "level", 0);
        EDGES.due(PASSED, "level", 0);
        EDGES.due(LEVEL_5 + "lowest 48 deal 0", "level", 0);
        EDGES.due(LEVEL_5 + "lowest 48 deal 0 bid 0 0 0 0", "level", 0);
    }

    private static void calledInTheLatestDeal() {
        EDGES.sentence("14: the suit of the king that was called in the latest deal");
        for (int suit = 0; suit < 4; suit++) {
            EDGES.due(LEVEL_1 + "call " + suit, "called", suit);
            EDGES.due(LEVEL_1 + "call " + suit + " take 0 discard 6 8 10 lowest 48", "called", suit);
        }
    }

    private static void nothingCalled() {
        EDGES.sentence("14: NONE without one");
        EDGES.due("", "called", TarockHall.NONE);
        EDGES.due(LEVEL_1, "called", TarockHall.NONE);
        EDGES.due(LEVEL_4 + "take 0", "called", TarockHall.NONE);
        EDGES.due(LEVEL_5 + "lowest 48", "called", TarockHall.NONE);
        EDGES.due(PLAY_1 + "lowest 48 deal 0", "called", TarockHall.NONE);
        EDGES.due(PLAY_1 + "lowest 48 deal 0 bid 5 0 0 0", "called", TarockHall.NONE);
        EDGES.due(PLAY_1 + "lowest 48 deal 0 bid 0 0 0 0", "called", TarockHall.NONE);
    }

    private static void partnerInTheLatestDeal() {
        EDGES.sentence("15: the partner of the declarer in the latest deal");
        EDGES.shows(LEVEL_1, "call 0 3, partner 3, take 0 3, partner 3");
        EDGES.due(PLAY_1 + "lowest 48", "partner", 3);
        EDGES.due("deal 0 bid 0 0 0 1 call 3 take 0 discard 3 4 9", "partner", 0);
    }

    private static void noPartner() {
        EDGES.sentence("15: NONE without one");
        EDGES.due("", "partner", TarockHall.NONE);
        EDGES.due(LEVEL_1, "partner", TarockHall.NONE);
        EDGES.due(LEVEL_1 + "call 3", "partner", TarockHall.NONE);
        EDGES.due(LEVEL_1 + "call 2", "partner", TarockHall.NONE);
        EDGES.due(LEVEL_4, "partner", TarockHall.NONE);
        EDGES.due(LEVEL_5 + "lowest 48", "partner", TarockHall.NONE);
        EDGES.due(PLAY_1 + "lowest 48 deal 0", "partner", TarockHall.NONE);
        EDGES.due(PLAY_1 + "lowest 48 deal 0 bid 5 0 0 0", "partner", TarockHall.NONE);
        EDGES.due(PLAY_1 + "lowest 48 deal 0 bid 1 0 0 0", "partner", TarockHall.NONE);
    }

    // ---- hand

    private static void playersFromZeroTo3() {
        EDGES.sentence("16: player: 0 to 3");
        for (int player = 0; player < 4; player++) {
            EDGES.due("", "hand " + player, 0);
            EDGES.due("deal 0", "hand " + player, Game.setOf(Game.HANDS_OF_0[player]));
        }
    }

    private static void noSuchPlayer() {
        EDGES.sentence("16: IndexOutOfBoundsException if there is no such player");
        for (String ahead : new String[] {"", "deal 0", TAKEN_1, LEVEL_5, LEVEL_5 + "lowest 48"}) {
            for (int player : new int[] {-1, 4, 5, Integer.MIN_VALUE, Integer.MAX_VALUE}) {
                EDGES.outside(ahead, "hand " + player);
            }
        }
    }

    private static void handsInTheCourseOfADeal() {
        EDGES.sentence("16: the cards that were neither played nor laid away");
        long hand = Game.setOf(Game.HANDS_OF_0[0]);
        EDGES.due(LEVEL_1 + "call 0", "hand 0", hand);
        EDGES.due(TAKEN_1, "hand 0", hand | Game.setOf(47, 53, 44));
        EDGES.due(TAKEN_1 + "discard 0", "hand 0", hand & ~Game.setOf(0) | Game.setOf(47, 53, 44));
        EDGES.due(TAKEN_1 + "discard 0 47 51", "hand 0", hand & ~Game.setOf(0, 51) | Game.setOf(53, 44));
        EDGES.due(LEVEL_5 + "play 0", "hand 0", hand & ~Game.setOf(0));
        EDGES.due(LEVEL_5 + "play 0", "hand 1", Game.setOf(Game.HANDS_OF_0[1]));
        EDGES.due(LEVEL_5 + "play 0 5", "hand 1", Game.setOf(Game.HANDS_OF_0[1]) & ~Game.setOf(5));
        EDGES.shows(LEVEL_5 + "lowest 44", "hand 0 " + Game.setOf(51) + ", hand 1 " + Game.setOf(30) + ", hand 2 "
            + Game.setOf(49) + ", hand 3 " + Game.setOf(14));
        EDGES.shows(LEVEL_5 + "lowest 47", "hand 0 0, hand 1 0, hand 2 " + Game.setOf(49) + ", hand 3 0");
    }

    private static void handsUntilTheNextDeal() {
        EDGES.sentence("16: also in the phase OVER, until the next deal");
        for (int player = 0; player < 4; player++) {
            EDGES.due(PASSED, "hand " + player, Game.setOf(Game.HANDS_OF_0[player]));
            EDGES.due(PASSED + "deal 0", "hand " + player, Game.setOf(Game.HANDS_OF_0[(player + 3) % 4]));
            EDGES.due(LEVEL_5 + "lowest 48", "hand " + player, 0);
            EDGES.due(LEVEL_5 + "lowest 48 deal 0", "hand " + player, Game.setOf(Game.HANDS_OF_0[(player + 3) % 4]));
        }
        EDGES.due(PLAY_1 + "lowest 48", "hand 0", 0);
    }

    private static void cardCountsTwoToItsPower() {
        EDGES.sentence("16: returns the set: card c counts 2 to the power of c");
        EDGES.due("deal 5350 bid 0 0 0 0", "hand 0", 13511078063751368L);
        EDGES.due(LEVEL_5 + "lowest 44", "hand 0", 2251799813685248L);
        EDGES.due(LEVEL_5 + "lowest 44", "hand 1", 1073741824L);
        EDGES.due(LEVEL_5 + "lowest 44", "hand 3", 16384L);
        EDGES.due("deal 37", "hand 1", 9293097846439970L);
    }

    // ---- the trick

    private static void cardsInTheTrick() {
        EDGES.sentence("18: how many cards are in the trick that has begun");
        for (String ahead : new String[] {"", "deal 0", PASSED, LEVEL_1, TAKEN_1, PLAY_1, LEVEL_5}) {
            EDGES.due(ahead, "inTrick", 0);
        }
        EDGES.shows(LEVEL_5, "lowest 1 1, inTrick 1, lowest 1 1, inTrick 2, lowest 1 1, inTrick 3, lowest 1 1, "
            + "inTrick 0");
        EDGES.shows(LEVEL_5 + "lowest 44", "inTrick 0, lowest 3 3, inTrick 3, lowest 1 1, inTrick 0");
        EDGES.due(LEVEL_5 + "lowest 48 deal 0", "inTrick", 0);
    }

    private static void placesOfTheTrick() {
        EDGES.sentence("19: place: 0 for the one that was led");
        EDGES.shows(LEVEL_5 + "play 26", "trickAt 0 26");
        EDGES.shows(LEVEL_5 + "play 26 24", "trickAt 0 26, trickAt 1 24");
        EDGES.shows(LEVEL_5 + "play 26 24 27", "trickAt 0 26, trickAt 1 24, trickAt 2 27");
        EDGES.shows(LEVEL_5 + "play 26 24 27 29 7", "trickAt 0 7");
        EDGES.shows(LEVEL_5 + "lowest 47", "trickAt 0 14, trickAt 1 51, trickAt 2 30");
        EDGES.shows(PASSED.repeat(3) + "deal 0 bid 5 0 0 0 play 0", "trickAt 0 0, turn 0");
    }

    private static void noSuchCardInTheTrick() {
        EDGES.sentence("19: IndexOutOfBoundsException if there is no such card");
        EDGES.outside("", "trickAt 0");
        EDGES.outside("deal 0", "trickAt 0");
        EDGES.outside(LEVEL_1, "trickAt 0");
        EDGES.outside(LEVEL_5, "trickAt 0");
        for (int size = 0; size < 4; size++) {
            String ahead = LEVEL_5 + (size == 0 ? "" : "lowest " + size);
            for (int place : new int[] {-1, size, size + 1, 3, 4, Integer.MIN_VALUE, Integer.MAX_VALUE}) {
                EDGES.outside(ahead, "trickAt " + place);
            }
        }
        EDGES.outside(LEVEL_5 + "lowest 4", "trickAt 0");
        EDGES.outside(LEVEL_5 + "lowest 4", "trickAt 3");
        EDGES.outside(LEVEL_5 + "lowest 5", "trickAt 1");
        EDGES.outside(LEVEL_5 + "lowest 48", "trickAt 0");
        EDGES.outside(LEVEL_5 + "lowest 48", "trickAt 3");
    }

    // ---- canPlay

    private static void cardsForCanPlay() {
        EDGES.sentence("20: card: 0 to 53");
        EDGES.due(LEVEL_5, "canPlay 0", 1);
        EDGES.due(LEVEL_5, "canPlay 53", 0);
        EDGES.due("deal 37 bid 5 0 0 0 play 35", "canPlay 53", 1);
        EDGES.due("deal 37 bid 5 0 0 0 play 35", "canPlay 0", 0);
    }

    private static void noSuchCardForCanPlay() {
        EDGES.sentence("20: IndexOutOfBoundsException if there is no such card");
        for (String ahead : new String[] {"", "deal 0", PASSED, LEVEL_1, TAKEN_1, LEVEL_5, LEVEL_5 + "lowest 48"}) {
            for (int card : new int[] {-1, 54, 63, 64, -64, Integer.MIN_VALUE, Integer.MAX_VALUE}) {
                EDGES.outside(ahead, "canPlay " + card);
            }
        }
    }

    private static void canPlayAsPlayWould() {
        EDGES.sentence("20: returns whether play() would play it");
        String[] moments = {LEVEL_5, LEVEL_5 + "play 0", LEVEL_5 + "play 8 15", LEVEL_5 + "play 26 24 27", PLAY_1,
            LEVEL_5 + "lowest 4", LEVEL_5 + "lowest 44", LEVEL_5 + "lowest 47", "deal 2113 bid 5 0 0 0 lowest 9"};
        long[] due = {Game.setOf(Game.HANDS_OF_0[0]), Game.setOf(2, 5), Game.setOf(32, 33, 39, 42, 43, 45, 49),
            Game.setOf(29), Game.setOf(0, 12, 16, 18, 21, 26, 31, 37, 51, 47, 53, 44),
            Game.setOf(4, 7, 9, 11, 13, 14, 29, 38, 41, 46, 50), Game.setOf(14), Game.setOf(49),
            Game.setOf(9, 10, 13, 15, 19, 21, 23, 25, 27, 31)};
        for (int k = 0; k < moments.length; k++) {
            for (int card = 0; card < 54; card++) {
                boolean can = (due[k] >> card & 1) == 1;
                EDGES.due(moments[k], "canPlay " + card, can ? 1 : 0);
                TarockHall hall = Script.hall(moments[k]);
                int played = card;
                boolean refused = Answers.of(() -> hall.play(played)).equals("throws.IllegalStateException");
                EDGES.holds("play(" + card + ") behind " + moments[k], refused != can);
            }
        }
    }

    private static void falseInOtherPhases() {
        EDGES.sentence("20: false in other phases");
        String[] others = {"", "deal 0", PASSED, LEVEL_1, LEVEL_1 + "call 0", LEVEL_4, TAKEN_1, TAKEN_1 + "discard 6 8",
            LEVEL_5 + "lowest 48", LEVEL_5 + "lowest 48 deal 0"};
        for (String ahead : others) {
            for (int card = 0; card < 54; card++) {
                EDGES.due(ahead, "canPlay " + card, 0);
            }
        }
    }

    // ---- tricks

    private static void tricksThatAreOver() {
        EDGES.sentence("21: how many tricks of the latest deal are over");
        EDGES.due(LEVEL_5, "tricks", 0);
        EDGES.due(LEVEL_5 + "lowest 3", "tricks", 0);
        for (int trick = 1; trick <= 12; trick++) {
            EDGES.due(LEVEL_5 + "lowest " + 4 * trick, "tricks", trick);
            EDGES.due(LEVEL_5 + "lowest " + (4 * trick - 1), "tricks", trick - 1);
        }
    }

    private static void tricksOfTheLatestDeal() {
        EDGES.sentence("21: of the latest deal");
        EDGES.due("", "tricks", 0);
        EDGES.due("deal 0", "tricks", 0);
        EDGES.due(PASSED, "tricks", 0);
        EDGES.due(LEVEL_5 + "lowest 48 deal 0", "tricks", 0);
        EDGES.due(LEVEL_5 + "lowest 48 deal 0 bid 0 0 0 0", "tricks", 0);
        EDGES.due(LEVEL_5 + "lowest 48 deal 0 bid 5 0 0 0 lowest 4", "tricks", 1);
    }
}
