/** Promises 7 to 9: announcing and playing, each sentence with its boundary cases. */
public final class EdgesOfPlayTest {
    private static final Edges EDGES = new Edges();
    private static final String PASSED = "deal 0 bid 0 0 0 0 ";
    private static final String LEVEL_1 = "deal 0 bid 1 0 0 0 ";
    private static final String LEVEL_4 = "deal 0 bid 4 0 0 0 ";
    private static final String LEVEL_5 = "deal 0 bid 5 0 0 0 ";
    /** From the beginning of PLAYING on, at the levels that the names tell; the forehand is player 0. */
    private static final String PLAY_1 = LEVEL_1 + "call 0 take 0 discard 6 8 10 ";
    private static final String PLAY_3 = "deal 0 bid 3 0 0 0 call 0 take 0 discard 6 ";
    private static final String PLAY_4 = LEVEL_4 + "take 0 discard 6 ";
    /** Deals at level 5 in which player 1 has what the names tell, when player 0 leads. */
    private static final String ALL_BUT_TAROCKS = "deal 1205 bid 5 0 0 0 ";
    private static final String ONE_TAROCK = "deal 681 bid 5 0 0 0 ";

    public static void main(String[] args) {
        birds();
        noSuchBird();
        announcingOutsidePlaying();
        aCardWasPlayed();
        itIsAnnounced();
        kingAtTheLevels();
        firstLineOfAnnounce();
        howManyAreAnnounced();
        birdsOfTheNextDeal();
        cardsToPlay();
        noSuchCard();
        phaseIsNotPlaying();
        firstLineOfPlay();
        forehandLeads();
        cardsOfOthers();
        suitOfItsOwn();
        bordersOfTheSuits();
        tarocksForWhoHasNoneOfTheSuit();
        oneOfTheSuitOnly();
        anyCardForWhoHasNeither();
        winnerAtEachPlace();
        highestTarockWins();
        highestOfTheSuitThatWasLed();
        winnerLeadsTheNext();
        turnsGoRound();
        winnerOrNone();
        lastCardOfTheDeal();
        numberOfCards();
        numberOutOfRange();
        lowestOutsidePlaying();
        firstLineOfPlayLowest();
        lowestThatCanBePlayed();
        untilSomeCardsArePlayed();
        untilTheDealIsOver();
        EDGES.end("boundary cases of promises 7 to 9");
    }

    // ---- announce

    private static void birds() {
        EDGES.sentence("7: bird: PAGAT or KING");
        EDGES.due(PLAY_1, "announce 0", 1);
        EDGES.due(PLAY_1, "announce 1", 1);
    }

    private static void noSuchBird() {
        EDGES.sentence("7: IndexOutOfBoundsException if there is no such bird");
        for (String ahead : new String[] {PLAY_1, PLAY_4, LEVEL_5, PLAY_1 + "announce 0 1", PLAY_1 + "lowest 1"}) {
            for (int bird : new int[] {-1, 2, 3, 32, Integer.MIN_VALUE, Integer.MAX_VALUE}) {
                EDGES.outside(ahead, "announce " + bird);
            }
        }
    }

    private static void announcingOutsidePlaying() {
        EDGES.sentence("7: IllegalStateException if the phase is not PLAYING");
        String[] notPlaying = {"", "deal 0", PASSED, LEVEL_1, LEVEL_1 + "call 0", LEVEL_1 + "call 0 take 0",
            LEVEL_1 + "call 0 take 0 discard 6 8", LEVEL_4, LEVEL_4 + "take 0", LEVEL_5 + "lowest 48",
            PLAY_1 + "lowest 48"};
        for (String ahead : notPlaying) {
            EDGES.badState(ahead, "announce 0");
            EDGES.badState(ahead, "announce 1");
        }
        EDGES.due(PLAY_1, "announce 0", 1);
    }

    private static void aCardWasPlayed() {
        EDGES.sentence("7: IllegalStateException if a card was played (ahead of the first trick birds are announced)");
        for (int played : new int[] {1, 2, 3, 4, 5, 8, 44, 47}) {
            EDGES.badState(PLAY_1 + "lowest " + played, "announce 0");
            EDGES.badState(PLAY_1 + "lowest " + played, "announce 1");
            EDGES.badState(PLAY_1 + "announce 0 lowest " + played, "announce 1");
        }
        EDGES.badState(PLAY_1 + "play 0", "announce 0");
    }

    private static void itIsAnnounced() {
        EDGES.sentence("7: IllegalStateException if it is announced");
        EDGES.badState(PLAY_1 + "announce 0", "announce 0");
        EDGES.badState(PLAY_1 + "announce 1", "announce 1");
        EDGES.badState(PLAY_1 + "announce 0 1", "announce 0");
        EDGES.badState(PLAY_1 + "announce 1 0", "announce 1");
        EDGES.due(PLAY_1 + "announce 0", "announce 1", 2);
        EDGES.due(PLAY_1 + "announce 1", "announce 0", 2);
    }

    private static void kingAtTheLevels() {
        EDGES.sentence("7: IllegalStateException if it is KING at the levels 4 and 5");
        EDGES.due(PLAY_1, "announce 1", 1);
        EDGES.due("deal 0 bid 2 0 0 0 call 0 take 0 discard 6 8", "announce 1", 1);
        EDGES.due(PLAY_3, "announce 1", 1);
        EDGES.badState(PLAY_4, "announce 1");
        EDGES.badState(PLAY_4 + "announce 0", "announce 1");
        EDGES.badState(LEVEL_5, "announce 1");
        EDGES.due(PLAY_4, "announce 0", 1);
        EDGES.due(LEVEL_5, "announce 0", 1);
    }

    private static void firstLineOfAnnounce() {
        EDGES.sentence("7: the first line of the throws clause decides");
        for (String ahead : new String[] {"", "deal 0", PASSED, LEVEL_1, LEVEL_4, LEVEL_5 + "lowest 48"}) {
            EDGES.outside(ahead, "announce -1");
            EDGES.outside(ahead, "announce 2");
        }
    }

    private static void howManyAreAnnounced() {
        EDGES.sentence("7: returns how many birds are announced then");
        EDGES.shows(PLAY_1, "announce 0 1, announce 1 2");
        EDGES.shows(PLAY_3, "announce 1 1, announce 0 2, phase 5, turn 0, inTrick 0");
        EDGES.shows(PLAY_1 + "announce 0", "announce 0 throws.IllegalStateException, announce 1 2");
    }

    private static void birdsOfTheNextDeal() {
        EDGES.sentence("7: birds are announced for one deal");
        String again = "deal 0 bid 0 0 0 1 call 0 take 0 discard 3 4 9";
        EDGES.shows(PLAY_1 + "announce 0 1 lowest 48 " + again, "announce 0 1, announce 1 2");
        EDGES.shows(PLAY_1 + "announce 0 1 lowest 48 deal 0 bid 5 0 0 0", "announce 0 1");
    }

    // ---- play

    private static void cardsToPlay() {
        EDGES.sentence("8: card: 0 to 53");
        EDGES.due(LEVEL_5, "play 0", TarockHall.NONE);
        EDGES.badState(LEVEL_5, "play 53");
        EDGES.badState("deal 37 bid 5 0 0 0", "play 0");
        EDGES.due("deal 37 bid 5 0 0 0 play 35", "play 53", TarockHall.NONE);
    }

    private static void noSuchCard() {
        EDGES.sentence("8: IndexOutOfBoundsException if there is no such card");
        for (String ahead : new String[] {LEVEL_5, LEVEL_5 + "play 0", PLAY_1, LEVEL_5 + "lowest 47"}) {
            for (int card : new int[] {-1, 54, 55, 63, 64, 70, -54, -64, Integer.MIN_VALUE, Integer.MAX_VALUE}) {
                EDGES.outside(ahead, "play " + card);
            }
        }
    }

    private static void phaseIsNotPlaying() {
        EDGES.sentence("8: IllegalStateException if the phase is not PLAYING");
        String[] notPlaying = {"", "deal 0", PASSED, LEVEL_1, LEVEL_1 + "call 0", LEVEL_1 + "call 0 take 0",
            LEVEL_1 + "call 0 take 0 discard 6 8", LEVEL_4, LEVEL_4 + "take 0", LEVEL_5 + "lowest 48"};
        for (String ahead : notPlaying) {
            EDGES.badState(ahead, "play 0");
            EDGES.badState(ahead, "play 10");
            EDGES.badState(ahead, "play 53");
        }
        EDGES.due(LEVEL_5, "play 10", TarockHall.NONE);
    }

    private static void firstLineOfPlay() {
        EDGES.sentence("8: the first line of the throws clause decides");
        for (String ahead : new String[] {"", "deal 0", PASSED, LEVEL_1, LEVEL_4 + "take 0", LEVEL_5 + "lowest 48"}) {
            EDGES.outside(ahead, "play -1");
            EDGES.outside(ahead, "play 54");
        }
    }

    private static void forehandLeads() {
        EDGES.sentence("8: the forehand leads the first trick");
        EDGES.shows("deal 0 bid 0 0 0 5", "turn 0, play 3 throws.IllegalStateException, play 0 -1, turn 1");
        EDGES.shows(PASSED + "deal 0 bid 5 0 0 0", "turn 1, play 0 -1, turn 2");
        EDGES.shows(PASSED.repeat(3) + "deal 0 bid 0 5 0 0", "declarer 0, turn 3, play 0 -1, turn 0");
        EDGES.shows("deal 0 bid 0 0 1 0 call 0 take 0 discard 1 17 19", "declarer 2, turn 0, play 0 -1");
    }

    private static void cardsOfOthers() {
        EDGES.sentence("8: IllegalStateException if the player cannot play it: another has it, or it has gone");
        for (int card = 0; card < 54; card++) {
            if ((Game.setOf(Game.HANDS_OF_0[0]) >> card & 1) == 1) {
                EDGES.due(LEVEL_5, "play " + card, TarockHall.NONE);
            } else {
                EDGES.badState(LEVEL_5, "play " + card);
            }
        }
        EDGES.badState(LEVEL_5 + "play 0", "play 0");
        EDGES.badState(LEVEL_5 + "play 0 2 1 3", "play 3");
        EDGES.badState(PLAY_1, "play 6");
        EDGES.due(PLAY_1, "play 47", TarockHall.NONE);
    }

    private static void suitOfItsOwn() {
        EDGES.sentence("8: who has cards of the suit that was led has to play one of them; the tarocks are a suit");
        EDGES.shows(LEVEL_5 + "play 0", "canPlay 2 1, canPlay 5 1, canPlay 15 0, canPlay 34 0, canPlay 52 0");
        EDGES.badState(LEVEL_5 + "play 0", "play 15");
        EDGES.badState(LEVEL_5 + "play 0", "play 34");
        EDGES.shows(LEVEL_5 + "play 37", "canPlay 30 0, canPlay 34 1, canPlay 36 1, canPlay 52 1, canPlay 2 0");
        EDGES.badState(LEVEL_5 + "play 37", "play 30");
        EDGES.due(LEVEL_5 + "play 37", "play 34", TarockHall.NONE);
    }

    /** Player 1 has the first and the last card of the suit that is led, and those next to them. */
    private static void bordersOfTheSuits() {
        EDGES.sentence("8: the suits 0 to 3 are 8 * suit + rank, the suit 4 is 32 to 53");
        bordersOf("deal 187 bid 5 0 0 0 play 4", new int[] {0, 7}, new int[] {8, 33, 52});
        bordersOf("deal 1407 bid 5 0 0 0 play 11", new int[] {8, 15}, new int[] {7, 16, 32});
        bordersOf("deal 866 bid 5 0 0 0 play 18", new int[] {16, 23}, new int[] {15, 24, 31});
        bordersOf("deal 235 bid 5 0 0 0 play 25", new int[] {24, 31}, new int[] {23, 32});
        bordersOf("deal 37 bid 5 0 0 0 play 35", new int[] {32, 53}, new int[] {31, 1});
    }

    private static void bordersOf(String ahead, int[] inside, int[] outside) {
        for (int card : inside) {
            EDGES.due(ahead, "canPlay " + card, 1);
            EDGES.due(ahead, "play " + card, TarockHall.NONE);
        }
        for (int card : outside) {
            EDGES.due(ahead, "canPlay " + card, 0);
            EDGES.badState(ahead, "play " + card);
        }
    }

    private static void tarocksForWhoHasNoneOfTheSuit() {
        EDGES.sentence("8: who has none has to play a tarock, if there is one");
        bordersOf("deal 1203 bid 5 0 0 0 play 0", new int[] {32, 53}, new int[] {31, 12});
        bordersOf("deal 37 bid 5 0 0 0 play 11", new int[] {32, 53}, new int[] {31, 1, 5});
        bordersOf("deal 51 bid 5 0 0 0 play 17", new int[] {32, 53}, new int[] {31, 1, 24});
        bordersOf("deal 181 bid 5 0 0 0 play 25", new int[] {32, 53}, new int[] {7, 18, 23});
        bordersOf(ONE_TAROCK + "play 9", new int[] {42}, new int[] {2, 3, 16, 18, 19, 20, 23, 26, 29, 30, 31});
        bordersOf("deal 7565 bid 5 0 0 0 play 9", new int[] {52}, new int[] {0, 7, 16, 31});
    }

    private static void oneOfTheSuitOnly() {
        EDGES.sentence("8: who has just one card of the suit that was led has to play it");
        bordersOf(LEVEL_5 + "play 8", new int[] {15}, new int[] {2, 5, 22, 24, 34, 52});
        bordersOf(ONE_TAROCK + "play 32", new int[] {42}, new int[] {2, 31});
        bordersOf(LEVEL_5 + "play 26 24 27", new int[] {}, new int[] {3, 14, 38, 50});
        EDGES.due(LEVEL_5 + "play 26 24 27", "play 29", 3);
    }

    /** Player 1 of deal 2113 plays its only tarock to the first trick, and has none of suit 0. */
    private static void anyCardForWhoHasNeither() {
        EDGES.sentence("8: otherwise any card can be played");
        int[] suitsOnly = {4, 5, 7, 8, 9, 19, 22, 23, 24, 25, 27, 29};
        bordersOf(ALL_BUT_TAROCKS + "play 30", new int[] {24, 25, 27, 29}, new int[] {4, 5, 7, 8, 9, 19, 22, 23});
        bordersOf(ALL_BUT_TAROCKS + "play 32", suitsOnly, new int[] {0, 30, 33, 53});
        bordersOf(ALL_BUT_TAROCKS + "play 48", suitsOnly, new int[] {6, 32, 52});
        int[] neither = {9, 10, 13, 15, 19, 21, 23, 25, 27, 31};
        bordersOf("deal 2113 bid 5 0 0 0 lowest 9", neither, new int[] {2, 33, 50});
        bordersOf("deal 20575 bid 5 0 0 0 lowest 5", new int[] {9, 11, 14, 17, 25, 30}, new int[] {6, 7, 40});
    }

    /** For each forehand and each place of the trick, first with tarocks, then without. */
    private static void winnerAtEachPlace() {
        EDGES.sentence("8: the winner of a trick; 0 comes behind 3");
        String[][] tricks = {
            {"24", "50 39 49", "46", "0"}, {"8", "43 45 41", "35", "1"}, {"16", "34 36 51", "35", "2"},
            {"8", "32 33 37", "38", "3"}, {"0", "31 28 27", "29", "0"}, {"8", "28 30 29", "27", "1"},
            {"40", "12 11 14", "13", "2"}, {"12", "6 5 3", "7", "3"},
            {"5", "52 33 43", "48", "1"}, {"13", "42 51 41", "40", "2"}, {"9", "38 39 42", "40", "3"},
            {"41", "45 42 44", "47", "0"}, {"13", "7 2 6", "4", "1"}, {"17", "11 15 12", "9", "2"},
            {"5", "25 27 31", "30", "3"}, {"9", "2 6 3", "7", "0"},
            {"18", "52 32 37", "44", "2"}, {"6", "38 50 34", "49", "3"}, {"62", "33 35 36", "32", "0"},
            {"14", "48 47 38", "52", "1"}, {"10", "20 18 19", "16", "2"}, {"10", "0 7 2", "5", "3"},
            {"2", "10 9 13", "8", "0"}, {"30", "1 3 4", "5", "1"},
            {"3", "49 36 41", "43", "3"}, {"7", "33 41 40", "34", "0"}, {"7", "32 41 45", "34", "1"},
            {"51", "38 33 35", "51", "2"}, {"3", "23 16 22", "17", "3"}, {"7", "17 23 16", "22", "0"},
            {"31", "27 29 31", "28", "1"}, {"15", "9 14 8", "15", "2"},
        };
        for (int k = 0; k < tricks.length; k++) {
            String[] trick = tricks[k];
            String ahead = PASSED.repeat(k / 8) + "deal " + trick[0] + " bid 5 0 0 0 play " + trick[1];
            EDGES.due(ahead, "play " + trick[2], Long.parseLong(trick[3]));
            EDGES.due(ahead + " play " + trick[2], "turn", Long.parseLong(trick[3]));
        }
    }

    private static void highestTarockWins() {
        EDGES.sentence("8: the highest tarock wins the trick");
        EDGES.due("deal 8 bid 5 0 0 0 play 32 33 37", "play 38", 3);
        EDGES.due(LEVEL_5 + "play 8 15 32", "play 9", 2);
        EDGES.due("deal 1205 bid 5 0 0 0 play 32 4 35", "play 36", 3);
        EDGES.due("deal 1205 bid 5 0 0 0 play 48 29 35", "play 36", 0);
        EDGES.sentence("8: the pagat, the lowest tarock, is above each king");
        EDGES.due(LEVEL_5 + "play 8 15 32 9", "turn", 2);
    }

    private static void highestOfTheSuitThatWasLed() {
        EDGES.sentence("8: without one, the highest card of the suit that was led, whatever lies there of other suits");
        EDGES.due(OTHER_SUITS_BESIDE_10, "play 8", 0);
        EDGES.due(OTHER_SUITS_BESIDE_20, "play 28", 1);
        EDGES.due(HIGHER_SUITS_BESIDE_2, "play 9", 0);
        EDGES.due(LOWER_SUITS_BESIDE_30, "play 11", 3);
    }

    private static void winnerLeadsTheNext() {
        EDGES.sentence("8: the winner of each trick leads the next one");
        EDGES.shows(LEVEL_5, "play 8 -1, play 15 -1, play 32 -1, play 9 2, turn 2, "
            + "play 0 throws.IllegalStateException, play 33 -1, turn 3, play 50 -1, turn 0, play 51 -1, turn 1, "
            + "play 34 0, turn 0");
        EDGES.shows(LEVEL_5 + "lowest 3", "turn 3, play 3 3, turn 3, play 4 -1, turn 0, play 6 -1, turn 1");
    }

    private static void turnsGoRound() {
        EDGES.sentence("8: the players play in turn; 0 comes behind 3");
        EDGES.shows(LEVEL_5, "turn 0, lowest 1 1, turn 1, lowest 1 1, turn 2, lowest 1 1, turn 3");
        EDGES.shows(PASSED + "deal 0 bid 5 0 0 0", "turn 1, lowest 1 1, turn 2, lowest 1 1, turn 3, lowest 1 1, "
            + "turn 0");
        EDGES.shows(PASSED.repeat(3) + "deal 0 bid 5 0 0 0", "turn 3, lowest 1 1, turn 0, lowest 1 1, turn 1");
    }

    private static void winnerOrNone() {
        EDGES.sentence("8: returns the winner, if the trick is over by that; otherwise NONE");
        EDGES.shows(LEVEL_5, "play 26 -1, play 24 -1, play 27 -1, play 29 3, play 7 -1, play 6 -1, play 5 -1, "
            + "play 1 3");
        EDGES.due(LEVEL_5 + "lowest 43", "tricks", 10);
        EDGES.due(LEVEL_5 + "lowest 44", "tricks", 11);
    }

    /** The last trick of deal 0, with the lowest cards always: 14 of player 3, 51, 30, 49. */
    private static void lastCardOfTheDeal() {
        EDGES.sentence("8: after 12 tricks the deal is OVER, and is scored");
        EDGES.shows(LEVEL_5 + "lowest 44", "phase 5, tricks 11, turn 3, play 14 -1, play 51 -1, play 30 -1, phase 5, "
            + "tricks 11, result 0, score 0 0, radli 0 0, inTrick 3, play 49 0, phase 0, tricks 12, turn -1, "
            + "inTrick 0, result -80, score 0 -80, score 1 0, radli 0 1, radli 3 1");
        EDGES.badState(LEVEL_5 + "lowest 48", "play 49");
        EDGES.badState(LEVEL_5 + "lowest 47", "play 14");
    }

    // ---- playLowest

    private static void numberOfCards() {
        EDGES.sentence("9: cards: 1 to 48");
        EDGES.due(LEVEL_5, "lowest 1", 1);
        EDGES.due(LEVEL_5, "lowest 2", 2);
        EDGES.due(LEVEL_5, "lowest 47", 47);
        EDGES.due(LEVEL_5, "lowest 48", 48);
        EDGES.due(PLAY_1, "lowest 48", 48);
    }

    private static void numberOutOfRange() {
        EDGES.sentence("9: IllegalArgumentException if cards is out of range");
        for (String ahead : new String[] {LEVEL_5, LEVEL_5 + "lowest 1", PLAY_1, LEVEL_5 + "lowest 47"}) {
            for (int cards : new int[] {0, -1, 49, 50, Integer.MIN_VALUE, Integer.MAX_VALUE}) {
                EDGES.badArgument(ahead, "lowest " + cards);
            }
        }
    }

    private static void lowestOutsidePlaying() {
        EDGES.sentence("9: IllegalStateException if the phase is not PLAYING");
        String[] notPlaying = {"", "deal 0", PASSED, LEVEL_1, LEVEL_1 + "call 0", LEVEL_1 + "call 0 take 0",
            LEVEL_1 + "call 0 take 0 discard 6 8", LEVEL_4, LEVEL_4 + "take 0", LEVEL_5 + "lowest 48"};
        for (String ahead : notPlaying) {
            EDGES.badState(ahead, "lowest 1");
            EDGES.badState(ahead, "lowest 48");
        }
    }

    private static void firstLineOfPlayLowest() {
        EDGES.sentence("9: the first line of the throws clause decides");
        for (String ahead : new String[] {"", "deal 0", PASSED, LEVEL_1, LEVEL_4 + "take 0", LEVEL_5 + "lowest 48"}) {
            EDGES.badArgument(ahead, "lowest 0");
            EDGES.badArgument(ahead, "lowest 49");
        }
    }

    private static void lowestThatCanBePlayed() {
        EDGES.sentence("9: each the lowest card that can be played");
        EDGES.due(LEVEL_5 + "lowest 1", "trickAt 0", 0);
        EDGES.due("deal 187 bid 5 0 0 0 play 4 lowest 1", "trickAt 1", 0);
        EDGES.due("deal 1407 bid 5 0 0 0 play 11 lowest 1", "trickAt 1", 8);
        EDGES.due("deal 866 bid 5 0 0 0 play 18 lowest 1", "trickAt 1", 16);
        EDGES.due("deal 235 bid 5 0 0 0 play 25 lowest 1", "trickAt 1", 24);
        EDGES.due("deal 37 bid 5 0 0 0 play 35 lowest 1", "trickAt 1", 32);
        EDGES.due("deal 37 bid 5 0 0 0 play 11 lowest 1", "trickAt 1", 32);
        EDGES.due(ONE_TAROCK + "play 9 lowest 1", "trickAt 1", 42);
        EDGES.due(ALL_BUT_TAROCKS + "play 48 lowest 1", "trickAt 1", 4);
        EDGES.due("deal 20575 bid 5 0 0 0 lowest 6", "trickAt 1", 9);
        EDGES.due(LEVEL_5 + "play 26 24 27 29 lowest 1", "trickAt 0", 3);
        EDGES.due(LEVEL_5 + "lowest 47", "trickAt 0", 14);
    }

    private static void untilSomeCardsArePlayed() {
        EDGES.sentence("9: until some cards are played");
        EDGES.shows(LEVEL_5, "lowest 3 3, inTrick 3, tricks 0, turn 3, lowest 1 1, inTrick 0, tricks 1, turn 3");
        EDGES.shows(LEVEL_5, "lowest 4 4, inTrick 0, tricks 1, lowest 5 5, inTrick 1, tricks 2, lowest 3 3, tricks 3");
        EDGES.shows(LEVEL_5, "lowest 44 44, tricks 11, phase 5, lowest 3 3, inTrick 3, phase 5, lowest 1 1, phase 0");
        EDGES.shows(LEVEL_5 + "play 0 2", "lowest 3 3, inTrick 1, tricks 1");
    }

    private static void untilTheDealIsOver() {
        EDGES.sentence("9: or the deal is OVER; returns how many are played");
        EDGES.shows(LEVEL_5 + "lowest 47", "lowest 48 1, phase 0, result -80");
        EDGES.shows(LEVEL_5 + "lowest 47", "lowest 2 1, phase 0");
        EDGES.shows(LEVEL_5 + "lowest 47", "lowest 1 1, phase 0");
        EDGES.shows(LEVEL_5 + "lowest 1", "lowest 48 47, phase 0");
        EDGES.shows(LEVEL_5 + "lowest 1", "lowest 47 47, phase 0");
        EDGES.shows(LEVEL_5 + "lowest 1", "lowest 46 46, phase 5");
        EDGES.shows(LEVEL_5, "lowest 48 48, phase 0, result -80, lowest 1 throws.IllegalStateException");
    }

    // The last trick of each lacks its last card: 10 7 27, 20 15 21, 2 22 23 and 30 20 15.
    private static final String OTHER_SUITS_BESIDE_10 = "deal 1809 bid 5 0 0 0 play 49 53 37 51 48 44 36 41 33 39 50 "
        + "35 45 34 23 38 14 15 1 12 10 7 27";
    private static final String OTHER_SUITS_BESIDE_20 = "deal 657 bid 5 0 0 0 play 22 17 19 23 32 52 48 39 47 42 41 "
        + "34 33 37 51 53 50 26 35 49 46 25 38 29 20 15 21";
    private static final String HIGHER_SUITS_BESIDE_2 = "deal 476 bid 5 0 0 0 play 41 52 51 40 44 49 47 34 43 39 50 "
        + "37 32 36 38 45 7 0 1 5 42 30 33 28 27 29 24 4 6 25 3 26 2 22 23";
    private static final String LOWER_SUITS_BESIDE_30 = "deal 2106 bid 5 0 0 0 play 50 49 47 36 46 48 35 53 38 42 44 "
        + "40 33 37 43 34 41 28 22 32 39 25 24 26 30 20 15";
}
