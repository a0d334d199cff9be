/** Promises 25 to 27: score, radli, result. */
public final class ScoreTest {
    private static final Checks CHECKS = new Checks();
    private static final int NONE = TarockHall.NONE;
    private static final int BOTH = 3;
    private static final int PAGAT_ONLY = 1;
    private static final int KING_ONLY = 2;

    /**
     * A deal with the forehand 0: all play their lowest cards, holding back the pagat and the called king (held 1) or
     * nothing (held 0). The last three columns are what the game, PAGAT and KING make for the declarer's side.
     */
    private static final int[][] DEALS = {
        // number, declarer, level, suit, group, announced, held, partner, thirds 0, packs 0, 1, game, pagat, king
        {17611, 2, 1, 0, 1, BOTH, 1, 0, 147, 49, 21, 24, -50, -20},
        {49756, 0, 2, 3, 0, BOTH, 1, 2, 22, 7, 54, -47, -50, -20},
        {276, 2, 5, NONE, NONE, PAGAT_ONLY, 1, NONE, 95, 27, 34, -80, -50, 0},
        {13399, 0, 3, 0, 0, 0, 1, NONE, 9, 3, 67, -62, 25, -10},
        {49965, 3, 2, 0, 2, PAGAT_ONLY, 1, 1, 111, 37, 33, 22, -50, -10},
        {37982, 3, 1, 0, 0, KING_ONLY, 0, NONE, 42, 14, 56, -31, 0, -20},
        {43607, 1, 4, NONE, 2, 0, 1, NONE, 48, 16, 54, -69, 0, 0},
        {65452, 0, 4, NONE, 3, PAGAT_ONLY, 1, NONE, 68, 22, 43, -62, -50, 0},
        {14146, 3, 2, 2, 1, 0, 1, 2, 70, 23, 38, -31, -25, 0},
        {26151, 3, 2, 2, 2, KING_ONLY, 1, 1, 158, 44, 17, 37, 25, 20},
        {207, 3, 3, 0, 1, PAGAT_ONLY, 1, 2, 161, 45, 16, 48, -50, 10},
        {22039, 2, 3, 3, 5, KING_ONLY, 1, 1, 97, 28, 33, -32, -25, -20},
        {52076, 0, 2, 1, 1, BOTH, 1, 3, 111, 37, 33, 22, -50, -20},
        {2371, 1, 2, 2, 2, PAGAT_ONLY, 1, 2, 146, 44, 17, 33, 50, 10},
        {49550, 1, 1, 0, 1, KING_ONLY, 1, 2, 99, 33, 37, -12, -25, -20},
        {61462, 2, 3, 1, 4, PAGAT_ONLY, 1, 3, 154, 47, 14, 46, -50, 10},
        {59416, 3, 1, 2, 0, KING_ONLY, 1, NONE, 114, 38, 32, 13, 25, -20},
        {41887, 2, 4, NONE, 1, PAGAT_ONLY, 0, NONE, 150, 50, 20, 65, -50, 0},
        {24918, 3, 1, 1, 1, PAGAT_ONLY, 1, NONE, 30, 10, 60, -35, -50, -10},
        {60892, 1, 3, 0, 1, KING_ONLY, 1, 3, 133, 44, 17, 39, 25, -20},
        {17485, 1, 1, 3, 0, 0, 1, NONE, 110, 28, 33, 11, 0, 10},
        {34446, 1, 2, 0, 1, BOTH, 0, 0, 108, 36, 34, 21, -50, 20},
        {42673, 0, 3, 3, 2, BOTH, 1, 1, 107, 31, 30, 30, -50, -20},
        {19187, 2, 1, 3, 1, BOTH, 1, NONE, 106, 31, 30, 10, -50, -20},
        {59264, 0, 3, 1, 5, 0, 0, 2, 105, 35, 35, -30, 0, 0},
        {50998, 3, 2, 2, 1, PAGAT_ONLY, 0, 1, 104, 26, 35, -20, -50, -10},
        {23555, 1, 5, NONE, NONE, PAGAT_ONLY, 0, NONE, 115, 38, 23, 80, -50, 0},
    };

    public static void main(String[] args) {
        for (int[] deal : DEALS) {
            scoredDeal(deal);
        }
        radliOverFourDeals();
        radliWithGamesAlone();
        lostGameKeepsRadli();
        nothingForPassedDeals();
        wrongPlayers();
        CHECKS.end("promises 25 to 27");
    }

    private static void scoredDeal(int[] deal) {
        String name = " of deal " + deal[0];
        int declarer = deal[1];
        int level = deal[2];
        int partner = deal[7];
        TarockHall hall = Game.dealt(deal[0]);
        Game.upToPlaying(hall, declarer, level, deal[3], deal[4]);
        announceAll(hall, deal[5]);
        long heldBack = Game.setOf(32) | (level <= 3 ? Game.setOf(8 * deal[3] + 7) : 0);
        Game.playAllHoldingBack(hall, deal[6] == 1 ? heldBack : 0);
        int due = deal[11] + deal[12] + deal[13];
        CHECKS.same("15: partner" + name, hall.partner(), partner);
        CHECKS.same("23: thirds(0)" + name, hall.thirds(0), deal[8]);
        CHECKS.same("23: thirds(1)" + name, hall.thirds(1), 210 - deal[8]);
        CHECKS.same("24: byPacks(0)" + name, hall.byPacks(0), deal[9]);
        CHECKS.same("24: byPacks(1)" + name, hall.byPacks(1), deal[10]);
        CHECKS.same("27: result" + name, hall.result(), due);
        for (int player = 0; player < 4; player++) {
            boolean gets = player == declarer || player == partner;
            CHECKS.same("25: score(" + player + ")" + name, hall.score(player), gets ? due : 0);
            CHECKS.same("26: radli(" + player + ")" + name, hall.radli(player), level >= 4 ? 1 : 0);
        }
    }

    private static void announceAll(TarockHall hall, int birds) {
        if ((birds & PAGAT_ONLY) != 0) {
            hall.announce(TarockHall.PAGAT);
        }
        if ((birds & KING_ONLY) != 0) {
            hall.announce(TarockHall.KING);
        }
    }

    private static void playOut(TarockHall hall, int number, int level, int suit, int group, int birds) {
        hall.deal(number);
        Game.upToPlaying(hall, 2, level, suit, group);
        announceAll(hall, birds);
        hall.playLowest(48);
    }

    private static void radliOverFourDeals() {
        TarockHall hall = new TarockHall();
        playOut(hall, 500, 5, NONE, NONE, PAGAT_ONLY);
        CHECKS.same("27: lost without radli", hall.result(), -80 - 50);
        checkSheet(hall, new int[] {0, 0, -130, 0}, new int[] {1, 1, 1, 1});
        playOut(hall, 38356, 1, 3, 1, PAGAT_ONLY);
        CHECKS.same("27: a game that is won, with a bird that is not, doubled", hall.result(), 2 * (13 - 50));
        CHECKS.same("15: partner", hall.partner(), 0);
        checkSheet(hall, new int[] {-74, 0, -204, 0}, new int[] {1, 1, 0, 1});
        playOut(hall, 41035, 3, 3, 4, 0);
        CHECKS.same("27: the partner's radli do not double", hall.result(), 31 + 10);
        CHECKS.same("15: partner", hall.partner(), 3);
        checkSheet(hall, new int[] {-74, 0, -163, 41}, new int[] {1, 1, 0, 1});
        playOut(hall, 26475, 5, NONE, NONE, PAGAT_ONLY);
        CHECKS.same("27: won without radli", hall.result(), 80 - 50);
        checkSheet(hall, new int[] {-74, 0, -133, 41}, new int[] {2, 2, 1, 2});
    }

    private static void radliWithGamesAlone() {
        TarockHall hall = new TarockHall();
        playOut(hall, 41887, 4, NONE, 1, PAGAT_ONLY);
        CHECKS.same("27: won at level 4", hall.result(), 65 - 50);
        checkSheet(hall, new int[] {0, 0, 15, 0}, new int[] {1, 1, 1, 1});
        playOut(hall, 24216, 5, NONE, NONE, 0);
        CHECKS.same("27: won at level 5, doubled", hall.result(), 2 * 80);
        checkSheet(hall, new int[] {0, 0, 175, 0}, new int[] {2, 2, 1, 2});
        playOut(hall, 27243, 4, NONE, 0, PAGAT_ONLY);
        CHECKS.same("27: won with nothing as the result", hall.result(), 0);
        checkSheet(hall, new int[] {0, 0, 175, 0}, new int[] {3, 3, 1, 3});
    }

    private static void lostGameKeepsRadli() {
        TarockHall hall = new TarockHall();
        playOut(hall, 500, 5, NONE, NONE, PAGAT_ONLY);
        hall.deal(259);
        Game.upToPlaying(hall, 2, 1, 2, 1);
        hall.announce(TarockHall.PAGAT);
        Game.playAllHoldingBack(hall, Game.setOf(32, 23));
        CHECKS.same("23: just half of the thirds", hall.thirds(0), 105);
        CHECKS.same("27: lost, but the bird is made", hall.result(), 2 * (-10 + 50));
        checkSheet(hall, new int[] {80, 0, -130 + 80, 0}, new int[] {1, 1, 1, 1});
    }

    private static void nothingForPassedDeals() {
        TarockHall hall = new TarockHall();
        playOut(hall, 500, 5, NONE, NONE, PAGAT_ONLY);
        hall.deal(1);
        Game.bidAlone(hall, NONE, 0);
        CHECKS.same("27: the latest that was scored", hall.result(), -130);
        checkSheet(hall, new int[] {0, 0, -130, 0}, new int[] {1, 1, 1, 1});
        hall.deal(2);
        Game.upToPlaying(hall, 0, 5, NONE, NONE);
        hall.playLowest(47);
        CHECKS.same("27: not scored yet", hall.result(), -130);
        checkSheet(hall, new int[] {0, 0, -130, 0}, new int[] {1, 1, 1, 1});
    }

    private static void checkSheet(TarockHall hall, int[] scores, int[] radli) {
        for (int player = 0; player < 4; player++) {
            CHECKS.same("25: score(" + player + ")", hall.score(player), scores[player]);
            CHECKS.same("26: radli(" + player + ")", hall.radli(player), radli[player]);
        }
    }

    private static void wrongPlayers() {
        TarockHall hall = new TarockHall();
        CHECKS.outside("25: score(-1)", hall, () -> hall.score(-1));
        CHECKS.outside("25: score(4)", hall, () -> hall.score(4));
        CHECKS.outside("26: radli(-1)", hall, () -> hall.radli(-1));
        CHECKS.outside("26: radli(4)", hall, () -> hall.radli(4));
    }
}
