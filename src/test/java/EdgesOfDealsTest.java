/** Promises 1 to 3, and what the Terms say of dealing and bidding: each sentence with its boundary cases. */
public final class EdgesOfDealsTest {
    private static final Edges EDGES = new Edges();
    private static final String PASSED = "deal 0 bid 0 0 0 0 ";
    private static final String LEVEL_1 = "deal 0 bid 1 0 0 0 ";
    private static final String LEVEL_4 = "deal 0 bid 4 0 0 0 ";
    private static final String LEVEL_5 = "deal 0 bid 5 0 0 0 ";

    public static void main(String[] args) {
        noDealYet();
        allScoresAreNothing();
        objectsAreApart();
        numberFromZeroTo65535();
        numberOutOfRange();
        phaseIsNotOver();
        firstLineOfDeal();
        phaseIsBiddingThen();
        forehandGoesOn();
        forehandStaysForARefusedDeal();
        twelveCardsEach();
        lastSixAreTheTalon();
        theWholeLifeOfAnObject();
        levelFromZeroTo5();
        levelOutOfRange();
        phaseIsNotBidding();
        levelIsNotAboveTheHighest();
        firstLineOfBid();
        biddingBeginsWithTheForehand();
        biddingGoesRound();
        whoHasPassedIsLeftOut();
        threeHavePassedAndOneHasBid();
        allFourHavePassed();
        phaseBehindTheBidding();
        EDGES.end("boundary cases of promises 1 to 3");
    }

    private static void noDealYet() {
        EDGES.sentence("1: no deal yet");
        EDGES.shows("", "phase 0, turn -1, declarer -1, level 0, called -1, partner -1, inTrick 0, tricks 0, result 0");
        EDGES.shows("", "hand 0 0, hand 1 0, hand 2 0, hand 3 0, thirds 0 0, thirds 1 0, byPacks 0 0, byPacks 1 0");
        EDGES.shows("", "canPlay 0 0, canPlay 31 0, canPlay 32 0, canPlay 53 0");
        for (int player = 0; player < 4; player++) {
            for (int other = 0; other < 4; other++) {
                EDGES.due("", "knows " + player + " " + other, TarockHall.NONE);
            }
        }
        EDGES.badState("", "talonAt 0");
        EDGES.badState("", "talonAt 5");
        EDGES.outside("", "trickAt 0");
    }

    private static void allScoresAreNothing() {
        EDGES.sentence("1: all scores and radli are 0");
        EDGES.shows("", "score 0 0, score 1 0, score 2 0, score 3 0, radli 0 0, radli 1 0, radli 2 0, radli 3 0");
    }

    private static void objectsAreApart() {
        EDGES.sentence("1: a new object has no deal, whatever another one has");
        TarockHall used = Script.hall(LEVEL_5 + "lowest 48 deal 1 bid 1");
        TarockHall fresh = new TarockHall();
        EDGES.holds("the new one is as if there were no other",
            Answers.ofState(fresh).equals(Answers.ofState(new TarockHall())) && fresh.phase() == TarockHall.OVER);
        fresh.deal(65535);
        EDGES.holds("the used one goes on", used.turn() == 2 && used.level() == 1);
    }

    private static void numberFromZeroTo65535() {
        EDGES.sentence("2: number: 0 to 65535");
        EDGES.due("", "deal 0", 0);
        EDGES.due("", "deal 1", 0);
        EDGES.due("", "deal 65534", 0);
        EDGES.due("", "deal 65535", 0);
    }

    private static void numberOutOfRange() {
        EDGES.sentence("2: IllegalArgumentException if number is out of range");
        for (String ahead : new String[] {"", PASSED, LEVEL_5 + "lowest 48"}) {
            for (int number : new int[] {-1, 65536, 65537, Integer.MIN_VALUE, Integer.MAX_VALUE}) {
                EDGES.badArgument(ahead, "deal " + number);
            }
        }
    }

    private static void phaseIsNotOver() {
        EDGES.sentence("2: IllegalStateException if the phase is not OVER");
        String[] notOver = {"deal 0", "deal 0 bid 0 0 0", LEVEL_1, LEVEL_4, LEVEL_1 + "call 0",
            LEVEL_1 + "call 0 take 0", LEVEL_1 + "call 0 take 0 discard 0 6", LEVEL_1 + "call 0 take 0 discard 0 6 8",
            LEVEL_5, LEVEL_5 + "lowest 4", LEVEL_5 + "lowest 47"};
        for (String ahead : notOver) {
            EDGES.badState(ahead, "deal 0");
            EDGES.badState(ahead, "deal 65535");
        }
        EDGES.due(PASSED, "deal 0", 1);
        EDGES.due(LEVEL_5 + "lowest 48", "deal 0", 1);
    }

    private static void firstLineOfDeal() {
        EDGES.sentence("2: the first line of the throws clause decides");
        EDGES.badArgument("deal 0", "deal -1");
        EDGES.badArgument("deal 0", "deal 65536");
        EDGES.badArgument(LEVEL_5 + "lowest 47", "deal 65536");
    }

    private static void phaseIsBiddingThen() {
        EDGES.sentence("2: deals; the phase is BIDDING then");
        String inBidding = "phase 1, turn 1, declarer -1, level 0, called -1, partner -1, inTrick 0, tricks 0, "
            + "thirds 0 0, thirds 1 0, byPacks 0 0, byPacks 1 0, knows 0 0 -1, knows 3 1 -1, canPlay 0 0";
        EDGES.shows(PASSED + "deal 0", inBidding);
        EDGES.shows(LEVEL_5 + "lowest 48 deal 0", inBidding);
        EDGES.shows(LEVEL_1 + "call 0 take 0 discard 0 6 8 announce 0 1 lowest 48 deal 0", inBidding);
    }

    private static void forehandGoesOn() {
        EDGES.sentence("2: the forehand is player 0 in the first deal, and the next player in each further one");
        EDGES.due("", "deal 7", 0);
        EDGES.due(PASSED, "deal 7", 1);
        EDGES.due(PASSED.repeat(2), "deal 7", 2);
        EDGES.due(PASSED.repeat(3), "deal 7", 3);
        EDGES.due(PASSED.repeat(4), "deal 7", 0);
        EDGES.due(PASSED.repeat(5), "deal 7", 1);
        EDGES.due((LEVEL_5 + "lowest 48 ").repeat(3), "deal 7", 3);
        EDGES.due((LEVEL_5 + "lowest 48 ").repeat(4), "deal 7", 0);
        EDGES.due(PASSED + LEVEL_5 + "lowest 48 " + PASSED, "deal 7", 3);
    }

    private static void forehandStaysForARefusedDeal() {
        EDGES.sentence("2: a call that throws changes nothing");
        TarockHall hall = new TarockHall();
        for (int number : new int[] {-1, 65536, Integer.MIN_VALUE}) {
            Answers.of(() -> hall.deal(number));
        }
        EDGES.holds("three refused deals ahead of the first", hall.deal(0) == 0);
        EDGES.holds("a refused deal in BIDDING", Answers.of(() -> hall.deal(0)).startsWith("throws."));
        Script.run(hall, "bid 0 0 0 0");
        EDGES.holds("the forehand is just one further", hall.deal(0) == 1);
    }

    private static void twelveCardsEach() {
        EDGES.sentence("2: the forehand gets the first 12 cards of the row, the next player the next 12, and so on");
        for (int forehand = 0; forehand < 4; forehand++) {
            for (int seat = 0; seat < 4; seat++) {
                int player = (forehand + seat) % 4;
                EDGES.due(PASSED.repeat(forehand) + "deal 0", "hand " + player, Game.setOf(Game.HANDS_OF_0[seat]));
            }
        }
        EDGES.shows("deal 1", HANDS_OF_1);
        EDGES.shows("deal 65534", HANDS_OF_65534);
        EDGES.shows("deal 65535", HANDS_OF_65535);
        EDGES.shows("deal 32768", HANDS_OF_32768);
    }

    private static void lastSixAreTheTalon() {
        EDGES.sentence("2: the last 6 are the talon");
        for (int place = 0; place < 6; place++) {
            EDGES.due("deal 0", "talonAt " + place, Game.TALON_OF_0[place]);
            EDGES.due(PASSED.repeat(3) + "deal 0", "talonAt " + place, Game.TALON_OF_0[place]);
        }
        EDGES.shows("deal 65535", TALON_OF_65535);
    }

    private static void theWholeLifeOfAnObject() {
        EDGES.sentence("What it is: an object is used for at most 512 calls");
        TarockHall hall = new TarockHall();
        for (int k = 0; k < 102; k++) {
            EDGES.holds("forehand of deal " + k, hall.deal(65535 - k) == k % 4);
            for (int pass = 1; pass <= 4; pass++) {
                EDGES.holds("pass " + pass + " in deal " + k, hall.bid(0) == (pass < 4 ? 1 : 0));
            }
        }
        EDGES.holds("call 511", hall.deal(0) == 2);
        EDGES.holds("call 512", hall.hand(1) == Game.setOf(Game.HANDS_OF_0[3]));
    }

    private static void levelFromZeroTo5() {
        EDGES.sentence("3: level: 1 to 5; 0 to pass");
        for (int level = 0; level <= 5; level++) {
            EDGES.due("deal 0", "bid " + level, TarockHall.BIDDING);
            EDGES.due("deal 0 bid " + level, "level", level);
        }
    }

    private static void levelOutOfRange() {
        EDGES.sentence("3: IllegalArgumentException if level is out of range");
        for (String ahead : new String[] {"deal 0", "deal 0 bid 5", "deal 0 bid 0 0 0"}) {
            for (int level : new int[] {-1, 6, 7, Integer.MIN_VALUE, Integer.MAX_VALUE}) {
                EDGES.badArgument(ahead, "bid " + level);
            }
        }
    }

    private static void phaseIsNotBidding() {
        EDGES.sentence("3: IllegalStateException if the phase is not BIDDING");
        String[] notBidding = {"", PASSED, LEVEL_1, LEVEL_4, LEVEL_1 + "call 0", LEVEL_1 + "call 0 take 0", LEVEL_5,
            LEVEL_5 + "lowest 47", LEVEL_5 + "lowest 48"};
        for (String ahead : notBidding) {
            EDGES.badState(ahead, "bid 0");
            EDGES.badState(ahead, "bid 1");
            EDGES.badState(ahead, "bid 5");
        }
    }

    private static void levelIsNotAboveTheHighest() {
        EDGES.sentence("3: IllegalStateException if level is above 0 and not above the highest one so far");
        for (int highest = 1; highest <= 5; highest++) {
            String ahead = "deal 0 bid " + highest;
            for (int level = 1; level <= 5; level++) {
                if (level <= highest) {
                    EDGES.badState(ahead, "bid " + level);
                } else {
                    EDGES.due(ahead, "bid " + level, TarockHall.BIDDING);
                    EDGES.due(ahead + " bid " + level, "level", level);
                }
            }
            EDGES.due(ahead, "bid 0", TarockHall.BIDDING);
            EDGES.due(ahead + " bid 0", "level", highest);
        }
        EDGES.badState("deal 0 bid 1 3 0 0", "bid 3");
        EDGES.badState("deal 0 bid 1 3 0 0", "bid 2");
        EDGES.due("deal 0 bid 1 3 0 0", "bid 4", TarockHall.BIDDING);
        EDGES.due("deal 0 bid 5 0 0 0 lowest 48 deal 0", "bid 1", TarockHall.BIDDING);
    }

    private static void firstLineOfBid() {
        EDGES.sentence("3: the first line of the throws clause decides");
        for (String ahead : new String[] {"", PASSED, LEVEL_1, LEVEL_5, LEVEL_5 + "lowest 48"}) {
            EDGES.badArgument(ahead, "bid -1");
            EDGES.badArgument(ahead, "bid 6");
        }
    }

    private static void biddingBeginsWithTheForehand() {
        EDGES.sentence("3: beginning with the forehand");
        EDGES.due("deal 0", "turn", 0);
        EDGES.due(PASSED + "deal 0", "turn", 1);
        EDGES.due(PASSED.repeat(2) + "deal 0", "turn", 2);
        EDGES.due(PASSED.repeat(3) + "deal 0", "turn", 3);
        EDGES.due(PASSED.repeat(4) + "deal 0", "turn", 0);
        EDGES.due(LEVEL_5 + "lowest 48 deal 0", "turn", 1);
    }

    private static void biddingGoesRound() {
        EDGES.sentence("3: each player bids in turn; 0 comes behind 3");
        int[] bids = {0, 1, 2, 3};
        for (int forehand = 0; forehand < 4; forehand++) {
            TarockHall hall = Script.hall(PASSED.repeat(forehand) + "deal 0");
            for (int k = 0; k < 4; k++) {
                EDGES.holds("turn " + k + " from forehand " + forehand, hall.turn() == (forehand + k) % 4);
                hall.bid(bids[k]);
            }
            EDGES.holds("the second round from " + forehand, hall.turn() == (forehand + 1) % 4);
        }
    }

    private static void whoHasPassedIsLeftOut() {
        EDGES.sentence("3: each player who has not passed bids in turn");
        EDGES.due("deal 0 bid 1 0 0 2", "turn", 0);
        EDGES.due("deal 0 bid 0 1 2 3", "turn", 1);
        EDGES.due("deal 0 bid 0 0 1 2", "turn", 2);
        EDGES.due("deal 0 bid 0 0 1 2 3", "turn", 3);
        EDGES.due("deal 0 bid 0 0 1 2 3 4", "turn", 2);
        EDGES.due("deal 0 bid 1 2 0 0 3", "turn", 1);
        EDGES.due("deal 0 bid 1 2 0 0 3 4", "turn", 0);
        EDGES.due("deal 0 bid 0 1 0 2", "turn", 1);
        EDGES.due("deal 0 bid 0 1 0 2 3", "turn", 3);
        EDGES.due("deal 0 bid 1 0 2 0 3", "turn", 2);
        EDGES.due("deal 0 bid 1 0 2 0 3 4", "turn", 0);
    }

    private static void threeHavePassedAndOneHasBid() {
        EDGES.sentence("3: when three have passed and one has bid, that one is the declarer, with the highest level");
        EDGES.shows("deal 0 bid 1 0 0", "phase 1, declarer -1, level 1, turn 3, bid 0 2, declarer 0, level 1, turn 0");
        EDGES.shows("deal 0 bid 0 1 0", "phase 1, declarer -1, level 1, turn 3, bid 0 2, declarer 1, level 1, turn 1");
        EDGES.shows("deal 0 bid 0 0 2", "phase 1, declarer -1, level 2, turn 3, bid 0 2, declarer 2, level 2, turn 2");
        EDGES.shows("deal 0 bid 0 0 0", "phase 1, declarer -1, level 0, turn 3, bid 3 2, declarer 3, level 3, turn 3");
        EDGES.shows("deal 0 bid 0 0 0", "bid 1 2, declarer 3, level 1");
        EDGES.shows("deal 0 bid 0 0 0", "bid 4 3, declarer 3, level 4, turn 3");
        EDGES.shows("deal 0 bid 0 0 0", "bid 5 5, declarer 3, level 5, turn 0");
        EDGES.shows("deal 0 bid 1 2 3 4 5 0 0", "phase 1, declarer -1, level 5, turn 3, bid 0 5, declarer 0, level 5");
        EDGES.shows("deal 0 bid 1 2 3 4 0 0", "phase 1, declarer -1, turn 2, bid 0 3, declarer 3, level 4, turn 3");
        EDGES.shows("deal 0 bid 1 0 0 2 3", "phase 1, declarer -1, level 3, turn 3, bid 0 2, declarer 0, level 3");
        EDGES.shows(PASSED.repeat(3) + "deal 0 bid 0 0 0", "turn 2, bid 1 2, declarer 2, level 1, turn 2");
    }

    private static void allFourHavePassed() {
        EDGES.sentence("3: when all four have passed, the deal is OVER without scores");
        EDGES.shows("deal 0 bid 0 0 0", "phase 1, bid 0 0, phase 0, turn -1, declarer -1, level 0, called -1, "
            + "result 0");
        EDGES.shows("deal 0 bid 0 0 0 0", "score 0 0, score 1 0, score 2 0, score 3 0, radli 0 0, radli 3 0, tricks 0");
        EDGES.shows("deal 0 bid 0 0 0 0", "thirds 0 0, thirds 1 0, byPacks 0 0, byPacks 1 0, knows 0 0 -1, "
            + "knows 3 3 -1");
        EDGES.shows(PASSED.repeat(4) + "deal 0 bid 0 0 0 0", "phase 0, result 0, score 0 0, radli 0 0");
        EDGES.due(PASSED.repeat(3) + "deal 0 bid 0 0 0", "bid 0", TarockHall.OVER);
    }

    private static void phaseBehindTheBidding() {
        EDGES.sentence("3: returns the phase then");
        int[] phases = {0, 2, 2, 2, 3, 5};
        for (int level = 1; level <= 5; level++) {
            EDGES.due("deal 0 bid " + level + " 0 0", "bid 0", phases[level]);
            EDGES.due("deal 0 bid " + level + " 0 0 0", "phase", phases[level]);
            EDGES.due("deal 0 bid 0 0 0", "bid " + level, phases[level]);
        }
    }

    // Computed by a program apart from the class.
    private static final String HANDS_OF_1 = "hand 0 11426124972843010, hand 1 5911078164764681, "
        + "hand 2 37529424594820, hand 3 635244269011056";
    private static final String HANDS_OF_65534 = "hand 0 357341497397600, hand 1 4539062111371289, "
        + "hand 2 2252508486476930, hand 3 10291472088187396";
    private static final String HANDS_OF_65535 = "hand 0 22059364266114, hand 1 15797954919008321, "
        + "hand 2 504701606954252, hand 3 563232352322096";
    private static final String HANDS_OF_32768 = "hand 0 60198039856, hand 1 111051630724288, "
        + "hand 2 16765426323161602, hand 3 1129062114394125";
    private static final String TALON_OF_65535 = "talonAt 0 29, talonAt 1 18, talonAt 2 15, talonAt 3 26, "
        + "talonAt 4 39, talonAt 5 50";
}
