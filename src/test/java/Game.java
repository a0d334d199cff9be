/** Leads a hall through a deal. */
final class Game {
    /**
     * What deal 0 gives with the forehand 0. The kings of the suits 0, 1 and 3 lie with the players 3, 1 and 0, that
     * of suit 2 in the talon.
     */
    static final int[][] HANDS_OF_0 = {
        {0, 6, 8, 10, 12, 16, 18, 21, 26, 31, 37, 51},
        {2, 5, 15, 22, 24, 28, 30, 34, 36, 40, 48, 52},
        {1, 17, 19, 20, 27, 32, 33, 39, 42, 43, 45, 49},
        {3, 4, 7, 9, 11, 13, 14, 29, 38, 41, 46, 50},
    };
    static final int[] TALON_OF_0 = {47, 53, 44, 23, 35, 25};

    private Game() {
    }

    static long setOf(int... cards) {
        long set = 0;
        for (int card : cards) {
            set |= 1L << card;
        }
        return set;
    }

    static TarockHall dealt(int number) {
        TarockHall hall = new TarockHall();
        hall.deal(number);
        return hall;
    }

    /** Deal 0, with all passing but the declarer; the phase behind it follows from the level. */
    static TarockHall bidden(int declarer, int level) {
        TarockHall hall = dealt(0);
        bidAlone(hall, declarer, level);
        return hall;
    }

    static TarockHall called(int declarer, int level, int suit) {
        TarockHall hall = bidden(declarer, level);
        hall.call(suit);
        return hall;
    }

    static TarockHall taken(int declarer, int level, int suit, int group) {
        TarockHall hall = called(declarer, level, suit);
        hall.take(group);
        return hall;
    }

    static TarockHall playing(int declarer, int level, int suit, int group) {
        TarockHall hall = taken(declarer, level, suit, group);
        layAwayLowest(hall);
        return hall;
    }

    static void bidAlone(TarockHall hall, int declarer, int level) {
        for (int k = 0; k < 4 && hall.phase() == TarockHall.BIDDING; k++) {
            hall.bid(hall.turn() == declarer && hall.level() == 0 ? level : 0);
        }
    }

    static void layAwayLowest(TarockHall hall) {
        for (int k = 0; k < 3 && hall.phase() == TarockHall.DISCARDING; k++) {
            hall.discard(lowestToLayAway(hall.hand(hall.declarer())));
        }
    }

    /** From BIDDING to PLAYING: the suit and the group do not matter at the levels without them. */
    static void upToPlaying(TarockHall hall, int declarer, int level, int suit, int group) {
        bidAlone(hall, declarer, level);
        if (level <= 3) {
            hall.call(suit);
        }
        if (level <= 4) {
            hall.take(group);
            layAwayLowest(hall);
        }
    }

    static void play(TarockHall hall, int... cards) {
        for (int card : cards) {
            hall.play(card);
        }
    }

    /** Each plays the lowest card that can be played, but one that is held back only when there is no other. */
    static void playAllHoldingBack(TarockHall hall, long heldBack) {
        for (int k = 0; k < 48 && hall.phase() == TarockHall.PLAYING; k++) {
            long can = playable(hall.hand(hall.turn()), hall.inTrick() == 0 ? TarockHall.NONE : hall.trickAt(0));
            long first = (can & ~heldBack) != 0 ? can & ~heldBack : can;
            hall.play(Long.numberOfTrailingZeros(first));
        }
    }

    static long playable(long hand, int led) {
        if (led == TarockHall.NONE) {
            return hand;
        }
        long tarocks = setOf(32, 33, 34, 35, 36, 37, 38, 39, 40, 41, 42, 43, 44, 45, 46, 47, 48, 49, 50, 51, 52, 53);
        long suit = led >= 32 ? tarocks : 255L << led / 8 * 8;
        if ((hand & suit) != 0) {
            return hand & suit;
        }
        return (hand & tarocks) != 0 ? hand & tarocks : hand;
    }

    static int lowestToLayAway(long hand) {
        long kept = setOf(7, 15, 23, 31, 32, 52, 53);
        return Long.numberOfTrailingZeros(hand & ~kept);
    }
}
