/** Promises 4 to 6 and 17: calling, taking and laying away, each sentence with its boundary cases. */
public final class EdgesOfTheTalonTest {
    private static final Edges EDGES = new Edges();
    private static final String LEVEL_1 = "deal 0 bid 1 0 0 0 ";
    private static final String LEVEL_2 = "deal 0 bid 2 0 0 0 ";
    private static final String LEVEL_3 = "deal 0 bid 3 0 0 0 ";
    private static final String LEVEL_4 = "deal 0 bid 4 0 0 0 ";
    private static final String LEVEL_5 = "deal 0 bid 5 0 0 0 ";
    private static final String[] TAKING = {"", LEVEL_1 + "call 0 ", LEVEL_2 + "call 0 ", LEVEL_3 + "call 0 ", LEVEL_4};
    private static final int[] GROUP_SIZES = {0, 3, 2, 1, 1};

    public static void main(String[] args) {
        suitFromZeroTo3();
        noSuchSuit();
        phaseIsNotCalling();
        firstLineOfCall();
        callingAtTheLevels1To3();
        phaseIsTakingThen();
        otherPlayerWithTheKing();
        declarerHasTheKing();
        kingInTheTalon();
        groupsOfEachLevel();
        noSuchGroup();
        groupsInAnotherPhase();
        phaseIsNotTaking();
        phaseIsDiscardingThen();
        groupsInTheirOrder();
        cardFromZeroTo53();
        noSuchCard();
        phaseIsNotDiscarding();
        declarerDoesNotHaveTheCard();
        kingsAndTarocksOfValue5();
        cardsNextToThoseKept();
        asManyAsWereTaken();
        lastOneLaidAway();
        whatBelongsToTheSides();
        placeFromZeroTo5();
        noSuchPlace();
        thereWasNoDeal();
        talonAsItWasDealt();
        EDGES.end("boundary cases of promises 4 to 6 and 17");
    }

    // ---- call

    private static void suitFromZeroTo3() {
        EDGES.sentence("4: suit: 0 to 3");
        for (int suit = 0; suit < 4; suit++) {
            EDGES.due(LEVEL_1, "call " + suit, TarockHall.TAKING);
            EDGES.due(LEVEL_1 + "call " + suit, "called", suit);
        }
    }

    private static void noSuchSuit() {
        EDGES.sentence("4: IndexOutOfBoundsException if there is no such suit");
        for (String ahead : new String[] {LEVEL_1, LEVEL_2, LEVEL_3}) {
            for (int suit : new int[] {-1, 4, 5, Integer.MIN_VALUE, Integer.MAX_VALUE}) {
                EDGES.outside(ahead, "call " + suit);
            }
        }
    }

    private static void phaseIsNotCalling() {
        EDGES.sentence("4: IllegalStateException if the phase is not CALLING");
        String[] notCalling = {"", "deal 0", "deal 0 bid 1 0 0", "deal 0 bid 0 0 0 0", TAKING[1], TAKING[1] + "take 0",
            TAKING[1] + "take 0 discard 0 6 8", LEVEL_4, LEVEL_4 + "take 0", LEVEL_5, LEVEL_5 + "lowest 48"};
        for (String ahead : notCalling) {
            EDGES.badState(ahead, "call 0");
            EDGES.badState(ahead, "call 3");
        }
    }

    private static void firstLineOfCall() {
        EDGES.sentence("4: the first line of the throws clause decides");
        for (String ahead : new String[] {"", "deal 0", TAKING[1], LEVEL_4, LEVEL_5}) {
            EDGES.outside(ahead, "call -1");
            EDGES.outside(ahead, "call 4");
        }
    }

    private static void callingAtTheLevels1To3() {
        EDGES.sentence("4: CALLING (levels 1 to 3)");
        EDGES.due(LEVEL_1, "phase", TarockHall.CALLING);
        EDGES.due(LEVEL_3, "phase", TarockHall.CALLING);
        EDGES.due(LEVEL_3, "call 0", TarockHall.TAKING);
        EDGES.due(LEVEL_4, "phase", TarockHall.TAKING);
        EDGES.badState(LEVEL_4, "call 0");
    }

    private static void phaseIsTakingThen() {
        EDGES.sentence("4: the phase is TAKING then");
        EDGES.shows(LEVEL_1 + "call 2", "phase 3, turn 0, called 2, level 1, declarer 0");
        EDGES.shows("deal 0 bid 0 0 0 2 call 3", "phase 3, turn 3, called 3, level 2, declarer 3");
    }

    private static void otherPlayerWithTheKing() {
        EDGES.sentence("4: the other player who has its king is the partner");
        EDGES.due(LEVEL_1 + "call 0", "partner", 3);
        EDGES.due(LEVEL_1 + "call 1", "partner", 1);
        EDGES.due("deal 0 bid 0 0 0 1 call 3", "partner", 0);
        EDGES.due("deal 0 bid 0 0 0 1 call 1", "partner", 1);
        EDGES.due("deal 0 bid 0 0 1 0 call 0", "partner", 3);
        EDGES.due("deal 1 bid 1 0 0 0 call 0", "partner", 2);
        EDGES.due("deal 1 bid 1 0 0 0 call 1", "partner", 2);
    }

    private static void declarerHasTheKing() {
        EDGES.sentence("4: if the declarer has it, there is none");
        EDGES.due(LEVEL_1 + "call 3", "partner", TarockHall.NONE);
        EDGES.due("deal 0 bid 0 1 0 0 call 1", "partner", TarockHall.NONE);
        EDGES.due("deal 0 bid 0 0 0 1 call 0", "partner", TarockHall.NONE);
        EDGES.due("deal 1 bid 0 0 1 0 call 0", "partner", TarockHall.NONE);
    }

    /** The kings lie at the first and at the last place of the talon. */
    private static void kingInTheTalon() {
        EDGES.sentence("4: if it is in the talon, there is none");
        String first = "deal 40 bid 0 2 0 0 call 0 ";
        String last = "deal 46 bid 0 0 0 2 call 2 ";
        EDGES.shows(first, "talonAt 0 7, partner -1, called 0");
        EDGES.shows(last, "talonAt 5 23, partner -1, called 2");
        EDGES.due(first + "take 0", "partner", TarockHall.NONE);
        EDGES.due(first + "take 2", "partner", TarockHall.NONE);
        EDGES.due(last + "take 2", "partner", TarockHall.NONE);
        EDGES.due(last + "take 0", "partner", TarockHall.NONE);
        EDGES.due(LEVEL_1 + "call 2", "partner", TarockHall.NONE);
    }

    // ---- take

    private static void groupsOfEachLevel() {
        EDGES.sentence("5: groups of 3, 2 and 1 cards at the levels 1 to 3, of 1 card at level 4");
        for (int level = 1; level <= 4; level++) {
            for (int group = 0; group < 6 / GROUP_SIZES[level]; group++) {
                EDGES.due(TAKING[level], "take " + group, GROUP_SIZES[level]);
            }
        }
    }

    private static void noSuchGroup() {
        EDGES.sentence("5: IndexOutOfBoundsException if there is no such group");
        for (int level = 1; level <= 4; level++) {
            int behind = 6 / GROUP_SIZES[level];
            for (int group : new int[] {-1, behind, behind + 1, 6, Integer.MIN_VALUE, Integer.MAX_VALUE}) {
                EDGES.outside(TAKING[level], "take " + group);
            }
        }
        EDGES.outside(TAKING[1], "take 5");
        EDGES.outside(TAKING[2], "take 5");
        EDGES.outside(TAKING[2], "take 4");
    }

    private static void groupsInAnotherPhase() {
        EDGES.sentence("5: no such group, of the groups of 1 card, in another phase");
        String[] otherPhases = {"", "deal 0", "deal 0 bid 1", "deal 0 bid 0 0 0 0", LEVEL_1, LEVEL_2, LEVEL_3,
            TAKING[1] + "take 0", TAKING[2] + "take 0", TAKING[4] + "take 0", TAKING[1] + "take 0 discard 0 6 8",
            LEVEL_5, LEVEL_5 + "lowest 48", TAKING[1] + "take 1 discard 6 21 12 lowest 48"};
        for (String ahead : otherPhases) {
            EDGES.badState(ahead, "take 0");
            EDGES.badState(ahead, "take 2");
            EDGES.badState(ahead, "take 3");
            EDGES.badState(ahead, "take 5");
            EDGES.outside(ahead, "take 6");
            EDGES.outside(ahead, "take -1");
        }
    }

    private static void phaseIsNotTaking() {
        EDGES.sentence("5: IllegalStateException if the phase is not TAKING");
        EDGES.badState(LEVEL_1, "take 1");
        EDGES.badState(TAKING[1] + "take 1", "take 1");
        EDGES.badState(LEVEL_5, "take 1");
        EDGES.due(LEVEL_1 + "call 0", "take 1", 3);
    }

    private static void phaseIsDiscardingThen() {
        EDGES.sentence("5: the phase is DISCARDING then");
        EDGES.shows(TAKING[1] + "take 0", "phase 4, turn 0, thirds 0 0, thirds 1 0");
        EDGES.shows("deal 0 bid 0 0 0 4 take 5", "phase 4, turn 3, declarer 3");
    }

    /** Ahead of taking, player 0 has the first row of the hands of deal 0; its talon is 47 53 44 23 35 25. */
    private static void groupsInTheirOrder() {
        EDGES.sentence("5: its cards, in their order, are in groups; group: 0 for the first one");
        long hand = Game.setOf(Game.HANDS_OF_0[0]);
        EDGES.due(TAKING[1] + "take 0", "hand 0", hand | Game.setOf(47, 53, 44));
        EDGES.due(TAKING[1] + "take 1", "hand 0", hand | Game.setOf(23, 35, 25));
        EDGES.due(TAKING[2] + "take 0", "hand 0", hand | Game.setOf(47, 53));
        EDGES.due(TAKING[2] + "take 1", "hand 0", hand | Game.setOf(44, 23));
        EDGES.due(TAKING[2] + "take 2", "hand 0", hand | Game.setOf(35, 25));
        for (int level = 3; level <= 4; level++) {
            for (int group = 0; group < 6; group++) {
                EDGES.due(TAKING[level] + "take " + group, "hand 0", hand | Game.setOf(Game.TALON_OF_0[group]));
            }
        }
        EDGES.due(TAKING[1] + "take 1", "hand 1", Game.setOf(Game.HANDS_OF_0[1]));
    }

    // ---- discard

    private static void cardFromZeroTo53() {
        EDGES.sentence("6: card: 0 to 53");
        EDGES.due(TAKING[1] + "take 0", "discard 0", 2);
        EDGES.badState(TAKING[1] + "take 0", "discard 53");
        EDGES.badState("deal 0 bid 0 1 0 0 call 0 take 0", "discard 0");
        EDGES.badState("deal 0 bid 0 1 0 0 call 0 take 1", "discard 53");
    }

    private static void noSuchCard() {
        EDGES.sentence("6: IndexOutOfBoundsException if there is no such card");
        for (String ahead : new String[] {TAKING[1] + "take 0", TAKING[4] + "take 0", "", "deal 0", LEVEL_1, LEVEL_5}) {
            for (int card : new int[] {-1, 54, 55, 63, 64, 128, -64, Integer.MIN_VALUE, Integer.MAX_VALUE}) {
                EDGES.outside(ahead, "discard " + card);
            }
        }
    }

    private static void phaseIsNotDiscarding() {
        EDGES.sentence("6: IllegalStateException if the phase is not DISCARDING");
        String[] notDiscarding = {"", "deal 0", "deal 0 bid 0 0 0 0", LEVEL_1, TAKING[1], TAKING[4],
            TAKING[1] + "take 0 discard 6 8 10", TAKING[3] + "take 0 discard 6", LEVEL_5, LEVEL_5 + "lowest 48"};
        for (String ahead : notDiscarding) {
            EDGES.badState(ahead, "discard 0");
            EDGES.badState(ahead, "discard 12");
            EDGES.badState(ahead, "discard 53");
        }
    }

    private static void declarerDoesNotHaveTheCard() {
        EDGES.sentence("6: IllegalStateException if the declarer does not have the card");
        for (int card = 0; card < 54; card++) {
            boolean has = ((Game.setOf(Game.HANDS_OF_0[0]) | Game.setOf(23, 35, 25)) >> card & 1) == 1;
            if (!has) {
                EDGES.badState(TAKING[1] + "take 1", "discard " + card);
            }
        }
        EDGES.badState(TAKING[1] + "take 1 discard 25", "discard 25");
        EDGES.badState(TAKING[1] + "take 1 discard 25 6", "discard 6");
        EDGES.badState("deal 0 bid 0 0 0 1 call 0 take 0 discard 3", "discard 0");
    }

    /** Deal 1139 gives player 1 the cards 15 23 31 32 52 53, deal 1348 gives player 3 the cards 7 15 23 31 52 53. */
    private static void kingsAndTarocksOfValue5() {
        EDGES.sentence("6: IllegalStateException if it is a king or a tarock with the value 5");
        String pagat = "deal 1139 bid 0 1 0 0 call 0 take 0";
        for (int card : new int[] {15, 23, 31, 32, 52, 53}) {
            EDGES.badState(pagat, "discard " + card);
            EDGES.badState(pagat + " discard 5 13", "discard " + card);
        }
        String kings = "deal 1348 bid 0 0 0 1 call 0 take 0";
        for (int card : new int[] {7, 15, 23, 31, 52, 53}) {
            EDGES.badState(kings, "discard " + card);
        }
        EDGES.sentence("6: a king or a tarock with the value 5 out of the talon");
        EDGES.badState(TAKING[1] + "take 0", "discard 53");
        EDGES.badState(TAKING[1] + "take 1", "discard 23");
        EDGES.badState("deal 40 bid 1 0 0 0 call 0 take 0", "discard 7");
        EDGES.badState("deal 1 bid 1 0 0 0 call 0 take 0", "discard 32");
        EDGES.badState("deal 1 bid 1 0 0 0 call 0 take 1", "discard 31");
    }

    private static void cardsNextToThoseKept() {
        EDGES.sentence("6: no kings and no tarocks with the value 5, but all others");
        for (int card : new int[] {5, 13, 17, 27, 35, 51}) {
            EDGES.due("deal 1139 bid 0 1 0 0 call 0 take 0", "discard " + card, 2);
        }
        EDGES.due("deal 109 bid 0 1 0 0 call 0 take 0", "discard 33", 2);
        EDGES.due("deal 109 bid 0 1 0 0 call 0 take 0", "discard 6", 2);
        EDGES.due("deal 109 bid 0 1 0 0 call 0 take 0", "discard 30", 2);
        EDGES.due("deal 0 bid 0 0 0 1 call 0 take 0", "discard 14", 2);
        EDGES.due("deal 0 bid 0 1 0 0 call 0 take 0", "discard 22", 2);
        EDGES.due("deal 0 bid 0 1 0 0 call 0 take 0", "discard 24", 2);
    }

    private static void asManyAsWereTaken() {
        EDGES.sentence("6: as many cards as were taken; returns how many cards are to be laid away yet");
        EDGES.shows(TAKING[1] + "take 0", "discard 0 2, phase 4, discard 47 1, phase 4, discard 37 0, phase 5");
        EDGES.shows(TAKING[2] + "take 0", "discard 0 1, phase 4, discard 47 0, phase 5");
        EDGES.shows(TAKING[3] + "take 0", "discard 47 0, phase 5");
        EDGES.shows(TAKING[4] + "take 0", "discard 47 0, phase 5");
        EDGES.shows(TAKING[4] + "take 5", "discard 0 0, phase 5");
    }

    private static void lastOneLaidAway() {
        EDGES.sentence("6: with the last one the phase is PLAYING");
        EDGES.shows("deal 0 bid 0 0 0 1 call 0 take 1 discard 3 4", "phase 4, turn 3, discard 9 0, phase 5, turn 0");
        EDGES.badState(TAKING[1] + "take 0 discard 0 47", "play 6");
        EDGES.badState(TAKING[1] + "take 0 discard 0 47", "announce 0");
        EDGES.due(TAKING[1] + "take 0 discard 0 47 37", "play 6", TarockHall.NONE);
    }

    private static void whatBelongsToTheSides() {
        EDGES.sentence("6: these belong to the declarer's side; the rest of the talon (at level 5 all of it) to the "
            + "other");
        EDGES.shows(TAKING[1] + "take 0 discard 0 47", "thirds 0 0, thirds 1 0, byPacks 0 0, byPacks 1 0");
        EDGES.shows(TAKING[1] + "take 0 discard 0 47 37", "thirds 0 3, thirds 1 15, byPacks 0 1, byPacks 1 5");
        EDGES.shows(TAKING[1] + "take 1 discard 6 21 12", "thirds 0 21, thirds 1 15, byPacks 0 7, byPacks 1 5");
        EDGES.shows(TAKING[2] + "take 2 discard 6 21", "thirds 0 17, thirds 1 28");
        EDGES.shows(TAKING[3] + "take 5 discard 25", "thirds 0 1, thirds 1 29");
        EDGES.shows(TAKING[4] + "take 3 discard 12", "thirds 0 4, thirds 1 17");
        EDGES.shows(LEVEL_5, "thirds 0 0, thirds 1 30, byPacks 0 0, byPacks 1 10");
    }

    // ---- talonAt

    private static void placeFromZeroTo5() {
        EDGES.sentence("17: place: 0 to 5");
        for (int place = 0; place < 6; place++) {
            EDGES.due("deal 0", "talonAt " + place, Game.TALON_OF_0[place]);
        }
    }

    private static void noSuchPlace() {
        EDGES.sentence("17: IndexOutOfBoundsException if there is no such place");
        for (String ahead : new String[] {"", "deal 0", TAKING[1] + "take 0", LEVEL_5 + "lowest 48"}) {
            for (int place : new int[] {-1, 6, 7, 48, Integer.MIN_VALUE, Integer.MAX_VALUE}) {
                EDGES.outside(ahead, "talonAt " + place);
            }
        }
    }

    private static void thereWasNoDeal() {
        EDGES.sentence("17: IllegalStateException if there was no deal");
        for (int place = 0; place < 6; place++) {
            EDGES.badState("", "talonAt " + place);
        }
        TarockHall hall = new TarockHall();
        EDGES.holds("a deal that is refused", Answers.of(() -> hall.deal(65536)).startsWith("throws."));
        EDGES.holds("is no deal", Answers.of(() -> hall.talonAt(0)).equals("throws.IllegalStateException"));
    }

    private static void talonAsItWasDealt() {
        EDGES.sentence("17: a card of the talon of the latest deal, as it was dealt");
        String[] later = {LEVEL_1, TAKING[1], TAKING[1] + "take 0", TAKING[1] + "take 1 discard 25 35 6", LEVEL_5,
            LEVEL_5 + "lowest 48", "deal 0 bid 0 0 0 0", "deal 7 bid 0 0 0 0 deal 0"};
        for (String ahead : later) {
            EDGES.due(ahead, "talonAt 0", 47);
            EDGES.due(ahead, "talonAt 4", 35);
            EDGES.due(ahead, "talonAt 5", 25);
        }
        EDGES.shows(LEVEL_5 + "lowest 48 deal 40", "talonAt 0 7, talonAt 5 37");
        EDGES.shows("deal 0 bid 0 0 0 0 deal 46", "talonAt 0 20, talonAt 5 23");
    }
}
