/** Promises 22 to 24: values, thirds and packs, each sentence with its boundary cases. */
public final class EdgesOfCountingTest {
    private static final Edges EDGES = new Edges();
    private static final String PASSED = "deal 0 bid 0 0 0 0 ";
    private static final String LEVEL_1 = "deal 0 bid 1 0 0 0 ";
    private static final String LEVEL_5 = "deal 0 bid 5 0 0 0 ";
    private static final String PLAY_1 = LEVEL_1 + "call 0 take 0 discard 6 8 10 ";
    private static final String PLAY_2 = "deal 0 bid 2 0 0 0 call 0 take 0 discard 6 8 ";
    private static final String PLAY_3 = "deal 0 bid 3 0 0 0 call 0 take 0 discard 6 ";
    private static final String PLAY_4 = "deal 0 bid 4 0 0 0 take 0 discard 6 ";

    public static void main(String[] args) {
        cardsFromZeroTo53();
        noSuchCard();
        suitsByRank();
        tarocksByValue();
        valuesInEachPhase();
        allCardsTogether();
        sidesZeroAnd1();
        noSuchSide();
        nothingBefore();
        onceThePhaseIsPlaying();
        tricksWonSoFar();
        onceThePhaseWasPlaying();
        nothingOfTheLatestDealButOne();
        threeCardsAreAPack();
        oneOrTwoAreLeft();
        inRisingOrder();
        packsOfWholeDeals();
        EDGES.end("boundary cases of promises 22 to 24");
    }

    // ---- valueOf

    private static void cardsFromZeroTo53() {
        EDGES.sentence("22: card: 0 to 53");
        EDGES.due("", "valueOf 0", 1);
        EDGES.due("", "valueOf 53", 5);
    }

    private static void noSuchCard() {
        EDGES.sentence("22: IndexOutOfBoundsException if there is no such card");
        for (String ahead : new String[] {"", "deal 0", LEVEL_5}) {
            for (int card : new int[] {-1, 54, 55, 64, Integer.MIN_VALUE, Integer.MAX_VALUE}) {
                EDGES.outside(ahead, "valueOf " + card);
            }
        }
    }

    private static void suitsByRank() {
        EDGES.sentence("22: a king has the value 5, a queen 4, a knight 3, a jack 2; all other cards have the value 1");
        EDGES.shows("", "valueOf 0 1, valueOf 3 1, valueOf 4 2, valueOf 5 3, valueOf 6 4, valueOf 7 5");
        EDGES.shows("", "valueOf 8 1, valueOf 11 1, valueOf 12 2, valueOf 13 3, valueOf 14 4, valueOf 15 5");
        EDGES.shows("", "valueOf 16 1, valueOf 19 1, valueOf 20 2, valueOf 21 3, valueOf 22 4, valueOf 23 5");
        EDGES.shows("", "valueOf 24 1, valueOf 27 1, valueOf 28 2, valueOf 29 3, valueOf 30 4, valueOf 31 5");
    }

    private static void tarocksByValue() {
        EDGES.sentence("22: the tarocks 32, 52 and 53 have the value 5; all other cards have the value 1");
        EDGES.shows("", "valueOf 31 5, valueOf 32 5, valueOf 33 1, valueOf 51 1, valueOf 52 5, valueOf 53 5");
        for (int card = 33; card <= 51; card++) {
            EDGES.due("", "valueOf " + card, 1);
        }
    }

    private static void valuesInEachPhase() {
        EDGES.sentence("22: returns the value of a card, whatever the phase");
        for (String ahead : new String[] {"", "deal 0", LEVEL_1, PLAY_1, LEVEL_5 + "lowest 48", PASSED}) {
            EDGES.shows(ahead, "valueOf 0 1, valueOf 7 5, valueOf 32 5, valueOf 51 1, valueOf 53 5");
        }
    }

    private static void allCardsTogether() {
        EDGES.sentence("23: all cards together count 210 thirds");
        for (String deal : new String[] {PLAY_1, PLAY_2, PLAY_3, PLAY_4, LEVEL_5}) {
            TarockHall hall = Script.hall(deal + "lowest 48");
            EDGES.holds("both sides behind " + deal, hall.thirds(0) + hall.thirds(1) == 210);
        }
        EDGES.shows("deal 43592 bid 4 0 0 0 take 1 discard 0 lowest 48", "thirds 0 1, thirds 1 209");
        EDGES.shows("deal 38276 bid 0 0 1 0 call 3 take 1 discard 0 1 3 lowest 48", "thirds 0 207, thirds 1 3");
        EDGES.shows("deal 18585 bid 5 0 0 0 lowest 48", "thirds 0 0, thirds 1 210, byPacks 0 0, byPacks 1 70");
    }

    // ---- thirds

    private static void sidesZeroAnd1() {
        EDGES.sentence("23: side: 0 for the declarer's side, 1 for the other one");
        EDGES.shows(LEVEL_5, "thirds 0 0, thirds 1 30");
        EDGES.shows("deal 0 bid 0 0 5 0 play 8 15 32 9", "thirds 0 28, thirds 1 30, byPacks 0 5, byPacks 1 10");
    }

    private static void noSuchSide() {
        EDGES.sentence("23 and 24: IndexOutOfBoundsException if there is no such side");
        for (String ahead : new String[] {"", "deal 0", LEVEL_1, PLAY_1, LEVEL_5, LEVEL_5 + "lowest 48"}) {
            for (int side : new int[] {-1, 2, 3, Integer.MIN_VALUE, Integer.MAX_VALUE}) {
                EDGES.outside(ahead, "thirds " + side);
                EDGES.outside(ahead, "byPacks " + side);
            }
        }
    }

    private static void nothingBefore() {
        EDGES.sentence("23: 0 before");
        String[] before = {"", "deal 0", "deal 0 bid 1 0 0", LEVEL_1, LEVEL_1 + "call 0", LEVEL_1 + "call 0 take 0",
            LEVEL_1 + "call 0 take 0 discard 6 8", "deal 0 bid 4 0 0 0", "deal 0 bid 4 0 0 0 take 0", PASSED};
        for (String ahead : before) {
            EDGES.shows(ahead, "thirds 0 0, thirds 1 0, byPacks 0 0, byPacks 1 0");
        }
    }

    private static void onceThePhaseIsPlaying() {
        EDGES.sentence("23: those that were laid away, or are the rest of the talon, once the phase is PLAYING");
        EDGES.shows(PLAY_1, "thirds 0 12, thirds 1 15");
        EDGES.shows(PLAY_2, "thirds 0 11, thirds 1 16");
        EDGES.shows(PLAY_3, "thirds 0 10, thirds 1 29");
        EDGES.shows(PLAY_4, "thirds 0 10, thirds 1 29");
        EDGES.shows(LEVEL_5, "thirds 0 0, thirds 1 30");
    }

    private static void tricksWonSoFar() {
        EDGES.sentence("23: those of the tricks that its players have won so far");
        EDGES.shows(LEVEL_5, "play 8 -1, thirds 1 30, play 15 -1, play 32 -1, thirds 1 30, play 9 2, thirds 1 58");
        EDGES.shows(PLAY_1, "lowest 3 3, thirds 0 12, lowest 1 1, thirds 0 16, thirds 1 15, lowest 3 3, thirds 0 16, "
            + "lowest 1 1, thirds 0 41, lowest 4 4, thirds 0 41, thirds 1 34");
        EDGES.shows(PLAY_1, "lowest 47 47, thirds 0 107, thirds 1 69, lowest 1 1, thirds 0 141, thirds 1 69");
    }

    private static void onceThePhaseWasPlaying() {
        EDGES.sentence("23: once the phase was PLAYING");
        EDGES.shows(PLAY_1 + "lowest 48", "phase 0, thirds 0 141, thirds 1 69, byPacks 0 47, byPacks 1 23");
        EDGES.shows(PLAY_4 + "lowest 48", "phase 0, thirds 0 51, thirds 1 159, byPacks 0 17, byPacks 1 53");
        EDGES.shows(LEVEL_5 + "lowest 48", "phase 0, thirds 0 38, thirds 1 172, byPacks 0 12, byPacks 1 53");
    }

    private static void nothingOfTheLatestDealButOne() {
        EDGES.sentence("23: in the latest deal");
        EDGES.shows(PLAY_1 + "lowest 48 deal 0", "thirds 0 0, thirds 1 0, byPacks 0 0, byPacks 1 0");
        EDGES.shows(PLAY_1 + "lowest 48 deal 0 bid 0 0 0 0", "thirds 0 0, thirds 1 0, byPacks 0 0, byPacks 1 0");
        EDGES.shows(PLAY_1 + "lowest 48 deal 0 bid 5 0 0 0", "thirds 0 0, thirds 1 30, byPacks 0 0, byPacks 1 10");
    }

    // ---- byPacks

    /**
     * Side 0 has 3 cards, 6 8 10 (4 + 1 + 1 - 2), and 6 cards, 0 1 2 and 3 6 8; side 1 has 6, 23 25 35
     * and 44 47 53.
     */
    private static void threeCardsAreAPack() {
        EDGES.sentence("24: each three of them, from the lowest on, are a pack, whose points are their values, less 2");
        EDGES.shows(PLAY_1, "byPacks 0 4, byPacks 1 5");
        EDGES.shows(PLAY_2 + "lowest 4", "byPacks 0 5, byPacks 1 5");
        EDGES.shows(LEVEL_5, "byPacks 0 0, byPacks 1 10");
        EDGES.shows(PLAY_3 + "lowest 8", "byPacks 0 13, byPacks 1 5");
        EDGES.shows(PLAY_3 + "lowest 12", "byPacks 0 13, byPacks 1 15");
    }

    /** A queen alone, a queen and one card, 53 and 44 behind three, the pagat behind three, and so on. */
    private static void oneOrTwoAreLeft() {
        EDGES.sentence("24: cards that are left, one or two, do not count");
        EDGES.shows(PLAY_3, "byPacks 0 0, thirds 0 10, byPacks 1 5");
        EDGES.shows(PLAY_2, "byPacks 0 0, thirds 0 11, byPacks 1 5");
        EDGES.shows(PLAY_3 + "lowest 4", "byPacks 0 1, thirds 0 14");
        EDGES.shows(PLAY_1 + "lowest 4", "byPacks 0 5, thirds 0 16");
        EDGES.shows("deal 0 bid 0 0 5 0 play 8 15 32 9", "byPacks 0 5, thirds 0 28");
        EDGES.shows(LEVEL_5 + "lowest 4", "byPacks 1 7, thirds 1 34");
        EDGES.shows(LEVEL_5 + "lowest 8", "byPacks 1 18, thirds 1 68");
        EDGES.shows("deal 0 bid 0 0 5 0 play 8 15 32 9 33 50 51 52", "byPacks 1 11, thirds 1 46");
    }

    /** 0 1 2, 3 23 25, 35 44 47, and 53 is left: another order would leave another card. */
    private static void inRisingOrder() {
        EDGES.sentence("24: the cards are put in rising order");
        EDGES.shows(LEVEL_5 + "lowest 4", "byPacks 1 7");
        EDGES.shows(PLAY_1 + "lowest 8", "byPacks 0 9");
        EDGES.shows(PLAY_4 + "lowest 12", "byPacks 0 7, byPacks 1 12");
        EDGES.shows(PLAY_4 + "lowest 16", "byPacks 0 7, byPacks 1 16");
        EDGES.shows(LEVEL_5 + "lowest 20", "byPacks 0 5, byPacks 1 28");
    }

    private static void packsOfWholeDeals() {
        EDGES.sentence("24: returns the points of all packs, together");
        EDGES.shows(PLAY_1 + "lowest 48", "byPacks 0 47, byPacks 1 23");
        EDGES.shows(PLAY_2 + "lowest 48", "byPacks 0 44, byPacks 1 17");
        EDGES.shows(PLAY_3 + "lowest 48", "byPacks 0 34, byPacks 1 31");
        EDGES.shows("deal 18585 bid 5 0 0 0 lowest 48", "byPacks 0 0, byPacks 1 70");
    }
}
