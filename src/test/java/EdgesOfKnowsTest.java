/**
 * Promise 28: each sentence with its boundary cases. A row of four signs is what a player knows of the players 0 to 3:
 * 0, 1, or a dot for NONE.
 */
public final class EdgesOfKnowsTest {
    private static final Edges EDGES = new Edges();
    private static final String PASSED = "deal 0 bid 0 0 0 0 ";
    private static final String LEVEL_1 = "deal 0 bid 1 0 0 0 ";
    private static final String LEVEL_4 = "deal 0 bid 4 0 0 0 ";
    private static final String LEVEL_5 = "deal 0 bid 5 0 0 0 ";
    private static final String NOTHING = ".... .... .... ....";
    /** In deal 0 with declarer 0: player 3 has the king of suit 0, and player 0 that of suit 3. */
    private static final String PARTNER_3 = "0... 01.. 0.1. 0110";
    private static final String OWN_KING = "0111 01.. 0.1. 0..1";
    private static final String ALL_OF_PARTNER_3 = "0110 0110 0110 0110";
    private static final String ALL_OF_0_ALONE = "0111 0111 0111 0111";

    public static void main(String[] args) {
        playersFromZeroTo3();
        noSuchPlayer();
        noDeclarer();
        inThePhaseCalling();
        fromTheEndOfCallingOn();
        fromTheEndOfBiddingAtTheLevels4And5();
        kingDealtToTheTalon();
        firstAndLastPlaceOfTheTalon();
        asSoonAsTheCalledKingHasBeenPlayed();
        kingAtEachPlaceOfATrick();
        kingInTheFirstAndTheLastTrick();
        otherKingsShowNothing();
        ownerKnowsAll();
        declarerWithTheKingKnowsAll();
        othersKnowOfTheDeclarerAndThemselves();
        behindTheDeal();
        inTheLatestDeal();
        EDGES.end("boundary cases of promise 28");
    }

    private static void known(String ahead, String rows) {
        String[] byPlayer = rows.split(" ");
        StringBuilder looks = new StringBuilder();
        for (int player = 0; player < 4; player++) {
            for (int other = 0; other < 4; other++) {
                char sign = byPlayer[player].charAt(other);
                looks.append(looks.length() == 0 ? "" : ", ").append("knows ").append(player).append(' ').append(other);
                looks.append(' ').append(sign == '.' ? "-1" : String.valueOf(sign));
            }
        }
        EDGES.shows(ahead, looks.toString());
    }

    private static void playersFromZeroTo3() {
        EDGES.sentence("28: player: 0 to 3; other: 0 to 3");
        known(LEVEL_4, ALL_OF_0_ALONE);
        known("deal 0 bid 0 0 0 4", "1110 1110 1110 1110");
        known("", NOTHING);
    }

    private static void noSuchPlayer() {
        EDGES.sentence("28: IndexOutOfBoundsException if there is no such player, of either");
        for (String ahead : new String[] {"", "deal 0", LEVEL_1, LEVEL_1 + "call 0", LEVEL_5, LEVEL_5 + "lowest 48"}) {
            for (int none : new int[] {-1, 4, 5, Integer.MIN_VALUE, Integer.MAX_VALUE}) {
                for (int player = 0; player < 4; player += 3) {
                    EDGES.outside(ahead, "knows " + none + " " + player);
                    EDGES.outside(ahead, "knows " + player + " " + none);
                }
                EDGES.outside(ahead, "knows " + none + " " + none);
            }
        }
    }

    private static void noDeclarer() {
        EDGES.sentence("28: NONE if there is no declarer");
        known("", NOTHING);
        known("deal 0", NOTHING);
        known("deal 0 bid 5 0 0", NOTHING);
        known("deal 0 bid 0 0 0", NOTHING);
        known(PASSED, NOTHING);
    }

    private static void inThePhaseCalling() {
        EDGES.sentence("28: NONE in the phase CALLING");
        for (int level = 1; level <= 3; level++) {
            known("deal 0 bid " + level + " 0 0 0", NOTHING);
            known("deal 0 bid 0 0 0 " + level, NOTHING);
        }
    }

    private static void fromTheEndOfCallingOn() {
        EDGES.sentence("28: from the end of CALLING on");
        for (int level = 1; level <= 3; level++) {
            known("deal 0 bid " + level + " 0 0 0 call 0", PARTNER_3);
            known("deal 0 bid " + level + " 0 0 0 call 3", OWN_KING);
        }
        known(LEVEL_1 + "call 0 take 0", PARTNER_3);
        known(LEVEL_1 + "call 0 take 0 discard 6 8", PARTNER_3);
        known(LEVEL_1 + "call 0 take 0 discard 6 8 10", PARTNER_3);
        known(LEVEL_1 + "call 0 take 0 discard 6 8 10 announce 0 1", PARTNER_3);
    }

    private static void fromTheEndOfBiddingAtTheLevels4And5() {
        EDGES.sentence("28: from the end of BIDDING at the levels 4 and 5 all is known to all");
        known("deal 0 bid 4 0 0", NOTHING);
        known(LEVEL_4, ALL_OF_0_ALONE);
        known(LEVEL_4 + "take 0", ALL_OF_0_ALONE);
        known(LEVEL_4 + "take 0 discard 6", ALL_OF_0_ALONE);
        known("deal 0 bid 5 0 0", NOTHING);
        known(LEVEL_5, ALL_OF_0_ALONE);
        known("deal 0 bid 0 5 0 0", "1011 1011 1011 1011");
        known("deal 0 bid 0 0 5 0", "1101 1101 1101 1101");
        known("deal 0 bid 0 0 0 5", "1110 1110 1110 1110");
    }

    private static void kingDealtToTheTalon() {
        EDGES.sentence("28: all is known to all, if the called king was dealt to the talon, be it taken or left");
        known(LEVEL_1 + "call 2", ALL_OF_0_ALONE);
        known(LEVEL_1 + "call 2 take 0", ALL_OF_0_ALONE);
        known(LEVEL_1 + "call 2 take 1", ALL_OF_0_ALONE);
        known(LEVEL_1 + "call 2 take 0 discard 6 8 10", ALL_OF_0_ALONE);
        known(LEVEL_1 + "call 2 take 1 discard 6 8 10", ALL_OF_0_ALONE);
        known("deal 0 bid 0 0 3 0 call 2", "1101 1101 1101 1101");
    }

    private static void firstAndLastPlaceOfTheTalon() {
        EDGES.sentence("28: the called king at the first and at the last place of the talon");
        known("deal 40 bid 0 1 0 0 call 0", "1011 1011 1011 1011");
        known("deal 46 bid 0 1 0 0 call 2", "1011 1011 1011 1011");
        known("deal 46 bid 0 3 0 0 call 2 take 5", "1011 1011 1011 1011");
    }

    private static void asSoonAsTheCalledKingHasBeenPlayed() {
        EDGES.sentence("28: as soon as the called king has been played, all is known to all");
        String ahead = LEVEL_1 + "call 0 take 0 discard 6 8 10 play 26 24 27 29";
        known(ahead, PARTNER_3);
        known(ahead + " play 7", ALL_OF_PARTNER_3);
        String own = LEVEL_1 + "call 3 take 0 discard 6 8 10";
        known(own, OWN_KING);
        known(own + " play 31", ALL_OF_0_ALONE);
        known(own + " play 26 24 27 29", OWN_KING);
    }

    private static void kingAtEachPlaceOfATrick() {
        EDGES.sentence("28: the called king is played as the first to the last card of a trick; just before, and as "
            + "soon as");
        known("deal 57259 bid 0 0 0 3 call 3 take 0 discard 2 lowest 32", "1..0 .1.0 1100 ...0");
        known("deal 57259 bid 0 0 0 3 call 3 take 0 discard 2 lowest 33", "1100 1100 1100 1100");
        known("deal 16053 bid 0 0 0 3 call 3 take 1 discard 4 lowest 37", "1..0 .1.0 1100 ...0");
        known("deal 16053 bid 0 0 0 3 call 3 take 1 discard 4 lowest 38", "1100 1100 1100 1100");
        known("deal 30940 bid 1 0 0 0 call 2 take 1 discard 0 1 6 lowest 38", "0... 01.. 0101 0..1");
        known("deal 30940 bid 1 0 0 0 call 2 take 1 discard 0 1 6 lowest 39", "0101 0101 0101 0101");
        known("deal 22808 bid 0 0 0 2 call 1 take 2 discard 0 3 lowest 7", "1..0 .1.0 1100 ...0");
        known("deal 22808 bid 0 0 0 2 call 1 take 2 discard 0 3 lowest 8", "1100 1100 1100 1100");
        known("deal 36864 bid 0 0 0 1 call 3 take 0 discard 3 9 11 lowest 40", "1..0 .1.0 ..10 1110");
        known("deal 36864 bid 0 0 0 1 call 3 take 0 discard 3 9 11 lowest 41", "1110 1110 1110 1110");
        known("deal 24701 bid 0 1 0 0 call 2 take 1 discard 3 8 11 lowest 33", "10.. 1011 .01. .0.1");
        known("deal 24701 bid 0 1 0 0 call 2 take 1 discard 3 8 11 lowest 34", "1011 1011 1011 1011");
        known("deal 26977 bid 0 0 2 0 call 1 take 1 discard 1 5 lowest 34", "1.0. .10. 1101 ..01");
        known("deal 26977 bid 0 0 2 0 call 1 take 1 discard 1 5 lowest 35", "1101 1101 1101 1101");
        known("deal 46126 bid 0 3 0 0 call 2 take 4 discard 2 lowest 23", "10.. 1011 .01. .0.1");
        known("deal 46126 bid 0 3 0 0 call 2 take 4 discard 2 lowest 24", "1011 1011 1011 1011");
    }

    private static void kingInTheFirstAndTheLastTrick() {
        EDGES.sentence("28: the called king is played to the first or to the last trick; just before, and as soon as");
        known("deal 23591 bid 0 0 0 2 call 0 take 1 discard 1 6", "0110 .1.0 ..10 ...0");
        known("deal 23591 bid 0 0 0 2 call 0 take 1 discard 1 6 lowest 1", "0110 0110 0110 0110");
        known("deal 32402 bid 0 1 0 0 call 0 take 1 discard 0 10 11 lowest 3", "10.. .0.. .01. 1010");
        known("deal 32402 bid 0 1 0 0 call 0 take 1 discard 0 10 11 lowest 4", "1010 1010 1010 1010");
        known("deal 47870 bid 0 0 0 3 call 3 take 2 discard 1 lowest 44", "0110 .1.0 ..10 ...0");
        known("deal 47870 bid 0 0 0 3 call 3 take 2 discard 1 lowest 45", "0110 0110 0110 0110");
        known("deal 1869 bid 0 0 2 0 call 3 take 2 discard 0 2 lowest 47", "1.0. 1001 ..0. ..01");
        known("deal 1869 bid 0 0 2 0 call 3 take 2 discard 0 2 lowest 48", "1001 1001 1001 1001");
        known("deal 48293 bid 1 0 0 0 call 0 take 0 discard 9 10 12", "0111 01.. 0.1. 0..1");
        known("deal 48293 bid 1 0 0 0 call 0 take 0 discard 9 10 12 lowest 1", "0111 0111 0111 0111");
        known("deal 63498 bid 0 0 0 2 call 0 take 0 discard 5 11 lowest 3", "1..0 .1.0 ..10 1110");
        known("deal 63498 bid 0 0 0 2 call 0 take 0 discard 5 11 lowest 4", "1110 1110 1110 1110");
        known("deal 49675 bid 0 2 0 0 call 3 take 1 discard 3 4 lowest 44", "10.. 1011 .01. .0.1");
        known("deal 49675 bid 0 2 0 0 call 3 take 1 discard 3 4 lowest 45", "1011 1011 1011 1011");
        known("deal 3550 bid 0 0 1 0 call 3 take 1 discard 5 10 13 lowest 47", "1.0. .10. 1101 ..01");
        known("deal 3550 bid 0 0 1 0 call 3 take 1 discard 5 10 13 lowest 48", "1101 1101 1101 1101");
    }

    private static void otherKingsShowNothing() {
        EDGES.sentence("28: the called king, not another one");
        known(LEVEL_1 + "call 0 take 0 discard 6 8 10 play 31", PARTNER_3);
        known(LEVEL_1 + "call 0 take 0 discard 6 8 10 play 12 15", PARTNER_3);
        known(LEVEL_1 + "call 3 take 0 discard 6 8 10 play 0 2 1 7", OWN_KING);
        known(LEVEL_1 + "call 0 take 0 discard 6 8 10 play 0 2 1 3", PARTNER_3);
    }

    private static void ownerKnowsAll() {
        EDGES.sentence("28: otherwise the player to whom the called king was dealt knows all");
        known("deal 0 bid 0 2 0 0 call 0", "10.. .0.. .01. 1010");
        known("deal 0 bid 0 0 2 0 call 1", "1.0. 1001 ..0. ..01");
        known("deal 0 bid 0 0 0 2 call 3", "0110 .1.0 ..10 ...0");
        known("deal 0 bid 0 2 0 0 call 3", "0011 .0.. .01. .0.1");
    }

    private static void declarerWithTheKingKnowsAll() {
        EDGES.sentence("28: be it the declarer");
        known(LEVEL_1 + "call 3", OWN_KING);
        known("deal 0 bid 0 1 0 0 call 1", "10.. 1011 .01. .0.1");
        known("deal 0 bid 0 0 0 1 call 0", "1..0 .1.0 ..10 1110");
        known("deal 0 bid 0 0 0 1 call 0 take 0 discard 3 4 9", "1..0 .1.0 ..10 1110");
    }

    private static void othersKnowOfTheDeclarerAndThemselves() {
        EDGES.sentence("28: each other player knows of the declarer and of the own side alone");
        EDGES.shows(LEVEL_1 + "call 0", "knows 1 0 0, knows 1 1 1, knows 1 2 -1, knows 1 3 -1");
        EDGES.shows(LEVEL_1 + "call 0", "knows 2 0 0, knows 2 2 1, knows 2 1 -1, knows 2 3 -1");
        EDGES.shows(LEVEL_1 + "call 0", "knows 0 0 0, knows 0 1 -1, knows 0 2 -1, knows 0 3 -1");
        EDGES.shows(LEVEL_1 + "call 3", "knows 3 0 0, knows 3 3 1, knows 3 1 -1, knows 3 2 -1");
    }

    private static void behindTheDeal() {
        EDGES.sentence("28: in the latest deal, also in the phase OVER");
        known(LEVEL_1 + "call 0 take 0 discard 6 8 10 lowest 48", ALL_OF_PARTNER_3);
        known(LEVEL_1 + "call 3 take 0 discard 6 8 10 lowest 48", ALL_OF_0_ALONE);
        known(LEVEL_1 + "call 2 take 0 discard 6 8 10 lowest 48", ALL_OF_0_ALONE);
        known(LEVEL_5 + "lowest 48", ALL_OF_0_ALONE);
    }

    private static void inTheLatestDeal() {
        EDGES.sentence("28: in the latest deal, not in an earlier one");
        known(LEVEL_1 + "call 0 take 0 discard 6 8 10 lowest 48 deal 0", NOTHING);
        known(LEVEL_5 + "lowest 48 deal 0 bid 1 0 0 0", NOTHING);
        known(LEVEL_5 + "lowest 48 deal 0 bid 0 0 0 0", NOTHING);
        known(LEVEL_1 + "call 2 take 0 discard 6 8 10 lowest 48 deal 0 bid 1 0 0 0 call 0",
            "0011 .0.. .01. .0.1");
    }
}
