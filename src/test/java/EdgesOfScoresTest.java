/** Promises 25 to 27, and what the Terms say of birds and scores: each sentence with its boundary cases. */
public final class EdgesOfScoresTest {
    private static final Edges EDGES = new Edges();
    private static final String PASSED = "deal 0 bid 0 0 0 0 ";
    /** Player 2 loses alone at level 5: the result is -80, and each player gets one of the radli. */
    private static final String FIRST = "deal 500 bid 0 0 5 0 lowest 48 ";
    /** Player 0 loses a second game alone, at level 4: each player has two of the radli. */
    private static final String SECOND = FIRST + "deal 51206 bid 0 0 0 4 take 0 discard 1 lowest 48 ";
    private static final String WON_WITH_TWO = "deal 9488 bid 1 0 0 0 call 3 take 1 discard 1 2 5 lowest 48 ";
    private static final String WON_WITH_ONE = "deal 25659 bid 0 0 0 2 call 1 take 2 discard 3 11 lowest 48 ";
    private static final String WON_WITH_NONE = "deal 37983 bid 0 0 3 0 call 2 take 4 discard 1 lowest 48 ";

    public static void main(String[] args) {
        gameAroundHalfOfTheThirds();
        gameAtTheEnds();
        pagatMade();
        pagatLost();
        pagatElsewhere();
        pagatAnnouncedAndMade();
        pagatAnnouncedOnly();
        kingMade();
        kingLost();
        kingElsewhere();
        kingAnnouncedAndMade();
        kingAnnouncedOnly();
        bothBirds();
        playersFromZeroTo3();
        noSuchPlayer();
        addedForDeclarerAndPartner();
        sumOverAllDeals();
        withoutRadliNothingIsDoubled();
        radliDoubleAndGo();
        radliStayIfTheGameIsLost();
        gameNotResultDecides();
        twoRadliDoubleOnce();
        radliOfOthersDoNotDouble();
        radliBehindTheLevels4And5();
        radliAfterThat();
        noRadliWithoutScores();
        resultOfTheLatestDealThatWasScored();
        noResult();
        scoredAfterTwelveTricks();
        theWholeLifeOfAnObject();
        EDGES.end("boundary cases of promises 25 to 27");
    }

    // ---- the game and the birds

    private static void gameAroundHalfOfTheThirds() {
        EDGES.sentence("Scores: the game is won if t is above 105; 10, 20, 30, 50 or 80, and at the levels 1 to 4 as "
            + "much more as the thirds above or below 105, divided by 3 and rounded down");
        for (String[] deal : ScoredDeals.AROUND_HALF) {
            EDGES.due(deal[4], "level", Long.parseLong(deal[0]));
            EDGES.shows(deal[4] + " lowest 48", "thirds 0 " + deal[1] + ", result " + deal[2] + ", partner " + deal[3]);
        }
    }

    private static void gameAtTheEnds() {
        EDGES.sentence("Scores: the thirds above or below 105, next to none or to all");
        EDGES.shows("deal 18585 bid 5 0 0 0 lowest 48", "thirds 0 0, result -80");
        EDGES.shows("deal 43592 bid 4 0 0 0 take 1 discard 0 lowest 48", "thirds 0 1, result -84");
        EDGES.shows("deal 31432 bid 3 0 0 0 call 3 take 1 discard 0 lowest 48", "thirds 0 1, result -64");
        EDGES.shows("deal 53940 bid 0 0 2 0 call 2 take 1 discard 0 2 lowest 48", "thirds 0 2, result -64");
        EDGES.shows("deal 38276 bid 0 0 1 0 call 3 take 1 discard 0 1 3 lowest 48", "thirds 0 207, result 44");
        EDGES.shows("deal 13084 bid 0 3 0 0 call 1 take 3 discard 5 lowest 48", "thirds 0 189, result 58");
    }

    private static void scored(String[][] deals) {
        for (String[] deal : deals) {
            long result = Long.parseLong(deal[2]) + Long.parseLong(deal[3]) + Long.parseLong(deal[4]);
            EDGES.shows(deal[5], "phase 0, thirds 0 " + deal[1] + ", result " + result);
        }
    }

    private static void pagatMade() {
        EDGES.sentence("Birds: PAGAT counts 25 for the side that makes it, by the pagat in the last trick");
        scored(ScoredDeals.PAGAT_MADE);
    }

    private static void pagatLost() {
        EDGES.sentence("Birds: against the side of who plays the pagat to the last trick and does not win by it");
        scored(ScoredDeals.PAGAT_LOST);
    }

    private static void pagatElsewhere() {
        EDGES.sentence("Birds: PAGAT counts nothing, if the pagat is not in the last trick");
        scored(ScoredDeals.PAGAT_ELSEWHERE);
    }

    private static void pagatAnnouncedAndMade() {
        EDGES.sentence("Birds: if PAGAT is announced, it counts 50 for the declarer's side if it makes it");
        scored(ScoredDeals.PAGAT_ANNOUNCED_AND_MADE);
    }

    private static void pagatAnnouncedOnly() {
        EDGES.sentence("Birds: if PAGAT is announced, it counts 50 against the declarer's side otherwise");
        scored(ScoredDeals.PAGAT_ANNOUNCED_ONLY);
    }

    private static void kingMade() {
        EDGES.sentence("Birds: KING counts 10 for the declarer's side if it makes it");
        scored(ScoredDeals.KING_MADE);
    }

    private static void kingLost() {
        EDGES.sentence("Birds: against it if the called king is in the last trick, and the other side wins");
        scored(ScoredDeals.KING_LOST);
    }

    private static void kingElsewhere() {
        EDGES.sentence("Birds: KING counts nothing, if the called king is not in the last trick");
        scored(ScoredDeals.KING_ELSEWHERE);
    }

    private static void kingAnnouncedAndMade() {
        EDGES.sentence("Birds: if KING is announced, it counts 20 for the declarer's side if it makes it");
        scored(ScoredDeals.KING_ANNOUNCED_AND_MADE);
    }

    private static void kingAnnouncedOnly() {
        EDGES.sentence("Birds: if KING is announced, it counts 20 against the declarer's side otherwise");
        scored(ScoredDeals.KING_ANNOUNCED_ONLY);
    }

    private static void bothBirds() {
        EDGES.sentence("Scores: what all this makes for the declarer's side, together, is the result");
        scored(ScoredDeals.BOTH_BIRDS);
    }

    // ---- scores

    private static void playersFromZeroTo3() {
        EDGES.sentence("25 and 26: player: 0 to 3");
        EDGES.shows("", "score 0 0, score 3 0, radli 0 0, radli 3 0");
        EDGES.shows("deal 28 bid 5 0 0 0 lowest 48", "radli 0 1, radli 1 1, radli 2 1, radli 3 1");
    }

    private static void noSuchPlayer() {
        EDGES.sentence("25 and 26: IndexOutOfBoundsException if there is no such player");
        for (String ahead : new String[] {"", "deal 0", FIRST}) {
            for (int player : new int[] {-1, 4, 5, Integer.MIN_VALUE, Integer.MAX_VALUE}) {
                EDGES.outside(ahead, "score " + player);
                EDGES.outside(ahead, "radli " + player);
            }
        }
    }

    private static void addedForDeclarerAndPartner() {
        EDGES.sentence("25: the result is added to the scores of the declarer and of the partner");
        EDGES.shows("deal 34887 bid 0 0 0 1 call 3 take 0 discard 5 10 11 lowest 48",
            "declarer 3, partner 2, score 0 0, score 1 0, score 2 -10, score 3 -10");
        EDGES.shows("deal 38008 bid 0 0 0 2 call 0 take 2 discard 8 9 lowest 48",
            "declarer 3, partner 2, score 0 0, score 1 0, score 2 20, score 3 20");
        EDGES.shows("deal 49413 bid 0 2 0 0 call 2 take 2 discard 0 1 lowest 48",
            "declarer 1, partner 0, score 0 20, score 1 20, score 2 0, score 3 0");
        EDGES.shows("deal 32407 bid 0 0 0 3 call 0 take 5 discard 0 lowest 48",
            "declarer 3, partner -1, score 0 0, score 1 0, score 2 0, score 3 30");
        EDGES.shows("deal 42572 bid 0 0 5 0 lowest 48", "score 0 0, score 1 0, score 2 80, score 3 0");
    }

    private static void sumOverAllDeals() {
        EDGES.sentence("25: returns the sum over all deals");
        EDGES.shows(FIRST, "score 0 0, score 1 0, score 2 -80, score 3 0");
        EDGES.shows(SECOND, "score 0 -116, score 1 0, score 2 -80, score 3 0");
        EDGES.shows(SECOND + WON_WITH_TWO, "score 0 -76, score 1 0, score 2 -40, score 3 0");
        EDGES.shows(SECOND + WON_WITH_TWO + WON_WITH_ONE, "score 0 -76, score 1 0, score 2 40, score 3 80");
        EDGES.shows(SECOND + WON_WITH_TWO + WON_WITH_ONE + PASSED, "score 0 -76, score 1 0, score 2 40, score 3 80");
    }

    // ---- radli

    private static void withoutRadliNothingIsDoubled() {
        EDGES.sentence("26: if the declarer has radli, the result is doubled; without, it is not");
        EDGES.shows("deal 30787 bid 0 4 0 0 take 4 discard 8 lowest 48", "result 55, score 1 55");
        EDGES.shows("deal 53520 bid 0 5 0 0 lowest 48", "result -80, score 1 -80");
        EDGES.shows(SECOND + WON_WITH_TWO + WON_WITH_ONE + WON_WITH_NONE, "result 36, radli 2 0, score 2 76");
    }

    /** Behind FIRST, player 2 wins with 106 thirds at each level. */
    private static void radliDoubleAndGo() {
        EDGES.sentence("26: it is doubled, and if the game is won, the declarer loses one of them");
        EDGES.shows(FIRST + "deal 18671 bid 0 1 0 0 call 2 take 0 discard 4 8 11 lowest 48",
            "thirds 0 106, result 20, radli 2 0, radli 0 1, radli 1 1, radli 3 1, score 2 -60, score 3 20");
        EDGES.shows(FIRST + "deal 6290 bid 0 2 0 0 call 3 take 2 discard 10 12 lowest 48",
            "thirds 0 106, result 40, radli 2 0, radli 1 1, score 2 -40, score 1 40");
        EDGES.shows(FIRST + "deal 12117 bid 0 3 0 0 call 1 take 4 discard 2 lowest 48",
            "thirds 0 106, result 60, radli 2 0, radli 1 1, score 2 -20, score 1 60");
        EDGES.shows(FIRST + "deal 59605 bid 0 4 0 0 take 0 discard 11 lowest 48",
            "thirds 0 106, result 100, radli 2 1, radli 0 2, radli 1 2, radli 3 2, score 2 20");
        EDGES.shows(FIRST + "deal 10419 bid 0 5 0 0 lowest 48",
            "thirds 0 106, result 160, radli 2 1, radli 0 2, radli 1 2, radli 3 2, score 2 80");
    }

    /** Behind FIRST, player 2 loses with 105 thirds at each level. */
    private static void radliStayIfTheGameIsLost() {
        EDGES.sentence("26: if the game is lost, it is doubled, but the declarer loses none of them");
        EDGES.shows(FIRST + "deal 9806 bid 0 1 0 0 call 1 take 0 discard 4 10 12 lowest 48",
            "thirds 0 105, result -20, radli 2 1, radli 0 1, radli 3 1, score 2 -100, score 3 -20");
        EDGES.shows(FIRST + "deal 18458 bid 0 2 0 0 call 1 take 0 discard 3 10 lowest 48",
            "thirds 0 105, result -40, radli 2 1, radli 0 1, score 2 -120, score 0 -40");
        EDGES.shows(FIRST + "deal 56404 bid 0 3 0 0 call 2 take 3 discard 4 lowest 48",
            "thirds 0 105, result -60, radli 2 1, radli 0 1, score 2 -140, score 0 -60");
        EDGES.shows(FIRST + "deal 40105 bid 0 4 0 0 take 3 discard 0 lowest 48",
            "thirds 0 105, result -100, radli 2 2, radli 0 2, radli 3 2, score 2 -180");
        EDGES.shows(FIRST + "deal 11281 bid 0 5 0 0 lowest 48",
            "thirds 0 105, result -160, radli 2 2, radli 0 2, radli 3 2, score 2 -240");
    }

    /** Birds make the result of a game that is won negative or 0, and that of one that is lost positive or 0. */
    private static void gameNotResultDecides() {
        EDGES.sentence("26: if the game is won, the declarer loses one of them, whatever the result");
        EDGES.shows(FIRST + "deal 49119 bid 0 1 0 0 call 3 take 1 discard 2 9 10 announce 0 lowest 6 play 34 lowest 7 "
            + "play 37 lowest 6 play 41 lowest 2 play 43 lowest 4 play 46 lowest 2 play 47 lowest 3 play 48 lowest 5 "
            + "play 51 lowest 5", "thirds 0 123, result -68, radli 2 0, radli 3 1, score 2 -148, score 3 -68");
        EDGES.shows(FIRST + "deal 25554 bid 0 3 0 0 call 0 take 3 discard 6 announce 0 1 lowest 17 play 34 lowest 9 "
            + "play 39 lowest 11 play 45 lowest 1 play 49 lowest 6", "thirds 0 154, result -48, radli 2 0, "
            + "score 0 -48");
        EDGES.shows(FIRST + "deal 20577 bid 0 4 0 0 take 4 discard 0 announce 0 lowest 21 play 41 lowest 7 play 43 "
            + "lowest 18", "thirds 0 107, result 0, radli 2 1, radli 1 2");
        EDGES.shows(FIRST + "deal 8924 bid 0 1 0 0 call 2 take 0 discard 2 10 12 announce 0 lowest 9 play 37 lowest 8 "
            + "play 41 lowest 6 play 43 lowest 4 play 45 lowest 2 play 49 lowest 6 play 50 lowest 7",
            "thirds 0 105, result 80, radli 2 1, score 2 0");
        EDGES.shows(FIRST + "deal 47747 bid 0 1 0 0 call 1 take 1 discard 2 9 21 lowest 27 play 36 lowest 7 play 44 "
            + "lowest 1 play 52 lowest 10", "thirds 0 96, result 44, radli 2 1, score 2 -36, score 0 44");
        EDGES.shows(FIRST + "deal 244 bid 0 2 0 0 call 1 take 1 discard 8 9 announce 1 lowest 22 play 36 lowest 6 "
            + "play 40 lowest 4 play 45 lowest 1 play 48 lowest 11", "thirds 0 104, result 0, radli 2 1, radli 0 1");
    }

    private static void twoRadliDoubleOnce() {
        EDGES.sentence("26: with more of the radli it is doubled just once, and one of them is lost");
        EDGES.shows(SECOND, "radli 0 2, radli 1 2, radli 2 2, radli 3 2, result -116");
        EDGES.shows(SECOND + WON_WITH_TWO, "declarer 2, result 40, radli 2 1, radli 0 2, radli 1 2, radli 3 2");
        EDGES.shows(SECOND + WON_WITH_TWO + WON_WITH_ONE, "declarer 2, result 80, radli 2 0, radli 0 2, radli 3 2");
        EDGES.shows(SECOND + "deal 50023 bid 3 0 0 0 call 2 take 3 discard 1 lowest 48",
            "declarer 2, result -62, radli 2 2, radli 3 2");
        EDGES.shows(SECOND + "deal 20418 bid 0 5 0 0 lowest 48", "declarer 3, result 160, radli 3 2, radli 0 3, "
            + "radli 2 3");
    }

    private static void radliOfOthersDoNotDouble() {
        EDGES.sentence("26: the radli of the partner and of the others neither double nor go");
        EDGES.shows(SECOND + WON_WITH_TWO + WON_WITH_ONE + WON_WITH_NONE,
            "declarer 2, partner 0, result 36, radli 0 2, radli 1 2, radli 2 0, radli 3 2, score 0 -40, score 2 76");
    }

    private static void radliBehindTheLevels4And5() {
        EDGES.sentence("26: behind each deal at the levels 4 and 5 that is scored, each player gets one of the radli");
        EDGES.shows("deal 30787 bid 0 4 0 0 take 4 discard 8 lowest 48", "radli 0 1, radli 1 1, radli 2 1, radli 3 1");
        EDGES.shows("deal 49324 bid 0 4 0 0 take 4 discard 6 lowest 48", "radli 0 1, radli 1 1, radli 2 1, radli 3 1");
        EDGES.shows("deal 56700 bid 0 5 0 0 lowest 48", "radli 0 1, radli 1 1, radli 2 1, radli 3 1, result 80");
        EDGES.shows("deal 53520 bid 0 5 0 0 lowest 48", "radli 0 1, radli 1 1, radli 2 1, radli 3 1, result -80");
        EDGES.shows("deal 32407 bid 0 0 0 3 call 0 take 5 discard 0 lowest 48", "radli 0 0, radli 1 0, radli 3 0");
        EDGES.shows("deal 1214 bid 0 3 0 0 call 0 take 3 discard 8 lowest 48", "radli 0 0, radli 1 0, radli 3 0");
        EDGES.shows("deal 38008 bid 0 0 0 2 call 0 take 2 discard 8 9 lowest 48", "radli 0 0, radli 3 0");
        EDGES.shows("deal 7157 bid 1 0 0 0 call 3 take 0 discard 1 3 5 lowest 48", "radli 0 0, radli 3 0");
    }

    private static void radliAfterThat() {
        EDGES.sentence("26: after that: the radli of a deal do not double its own result, and are not lost in it");
        EDGES.shows("deal 56700 bid 0 5 0 0 lowest 48", "result 80, radli 1 1");
        EDGES.shows(FIRST + "deal 10419 bid 0 5 0 0 lowest 48", "result 160, radli 2 1");
    }

    private static void noRadliWithoutScores() {
        EDGES.sentence("26: a deal that is not scored gives no radli");
        EDGES.shows(PASSED, "radli 0 0, radli 1 0, radli 2 0, radli 3 0");
        EDGES.shows("deal 0 bid 5 0 0 0 lowest 47", "radli 0 0, radli 1 0, radli 2 0, radli 3 0");
        EDGES.shows(FIRST + PASSED, "radli 0 1, radli 1 1, radli 2 1, radli 3 1");
        EDGES.shows(FIRST + "deal 0 bid 5 0 0 0 lowest 47", "radli 0 1, radli 1 1, radli 2 1, radli 3 1");
    }

    // ---- the result

    private static void resultOfTheLatestDealThatWasScored() {
        EDGES.sentence("27: the result of the latest deal that was scored");
        EDGES.due(FIRST, "result", -80);
        EDGES.due(FIRST + "deal 0", "result", -80);
        EDGES.due(FIRST + PASSED, "result", -80);
        EDGES.due(FIRST + PASSED.repeat(5), "result", -80);
        EDGES.due(FIRST + "deal 10419 bid 0 5 0 0 lowest 47", "result", -80);
        EDGES.due(FIRST + "deal 10419 bid 0 5 0 0 lowest 48", "result", 160);
    }

    private static void noResult() {
        EDGES.sentence("27: 0 if there was none");
        EDGES.due("", "result", 0);
        EDGES.due("deal 0", "result", 0);
        EDGES.due(PASSED, "result", 0);
        EDGES.due("deal 500 bid 0 0 5 0 lowest 47", "result", 0);
    }

    private static void scoredAfterTwelveTricks() {
        EDGES.sentence("Scores: after 12 tricks the deal is OVER, and is scored");
        EDGES.shows("deal 500 bid 0 0 5 0 lowest 44", "tricks 11, result 0, score 2 0, lowest 3 3, result 0, "
            + "score 2 0, radli 2 0, lowest 1 1, tricks 12, phase 0, result -80, score 2 -80, radli 2 1");
    }

    /** 84 deals at level 5, three of which are won, and eight looks: 512 calls. */
    private static void theWholeLifeOfAnObject() {
        EDGES.sentence("What it is: scores over many deals, in at most 512 calls");
        StringBuilder deals = new StringBuilder();
        for (int k = 0; k < 84; k++) {
            String bids = " 0".repeat(k % 3) + " 5" + " 0".repeat(3 - k % 3);
            deals.append("deal ").append(777 * k).append(" bid").append(bids).append(" lowest 48 ");
        }
        EDGES.shows(deals.toString(), "score 0 -3280, score 1 -3360, score 2 -3040, score 3 -2720, "
            + "radli 0 84, radli 1 84, radli 2 83, radli 3 82");
    }
}
