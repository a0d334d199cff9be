/** Promises 22 to 24: valueOf, thirds, byPacks. */
public final class CountTest {
    private static final Checks CHECKS = new Checks();

    public static void main(String[] args) {
        values();
        wrongCards();
        thirdsInADeal();
        allCardsTogether();
        packsOfThree();
        wrongSides();
        CHECKS.end("promises 22 to 24");
    }

    private static void values() {
        TarockHall hall = new TarockHall();
        int[] byRank = {1, 1, 1, 1, 2, 3, 4, 5};
        int thirds = 0;
        for (int card = 0; card < 54; card++) {
            boolean dear = card == 32 || card == 52 || card == 53;
            int due = card < 32 ? byRank[card % 8] : dear ? 5 : 1;
            CHECKS.same("22: value of " + card, hall.valueOf(card), due);
            thirds += 3 * hall.valueOf(card) - 2;
        }
        CHECKS.same("22: all cards together", thirds, 210);
    }

    private static void wrongCards() {
        TarockHall hall = new TarockHall();
        CHECKS.outside("22: valueOf(-1)", hall, () -> hall.valueOf(-1));
        CHECKS.outside("22: valueOf(54)", hall, () -> hall.valueOf(54));
        CHECKS.outside("22: valueOf(least int)", hall, () -> hall.valueOf(Integer.MIN_VALUE));
    }

    private static void thirdsInADeal() {
        TarockHall hall = Game.dealt(0);
        CHECKS.same("23: none in BIDDING", hall.thirds(0) + hall.thirds(1), 0);
        Game.bidAlone(hall, 0, 1);
        CHECKS.same("23: none in CALLING", hall.thirds(0) + hall.thirds(1), 0);
        hall.call(0);
        CHECKS.same("23: none in TAKING", hall.thirds(0) + hall.thirds(1), 0);
        hall.take(1);
        hall.discard(6);
        hall.discard(21);
        CHECKS.same("23: none in DISCARDING", hall.thirds(0) + hall.thirds(1), 0);
        CHECKS.same("24: none in DISCARDING", hall.byPacks(0) + hall.byPacks(1), 0);
        hall.discard(12);
        CHECKS.same("23: queen, knight and jack were laid away", hall.thirds(0), 10 + 7 + 4);
        CHECKS.same("23: the first group is left", hall.thirds(1), 1 + 13 + 1);
        Game.play(hall, 8, 15, 32);
        CHECKS.same("23: a trick that is not over", hall.thirds(0) + hall.thirds(1), 36);
        hall.play(9);
        CHECKS.same("23: the other side wins a trick", hall.thirds(1), 15 + 1 + 13 + 13 + 1);
        CHECKS.same("23: not the declarer's", hall.thirds(0), 21);
        Game.play(hall, 33, 50, 51, 52);
        CHECKS.same("23: the other side wins again", hall.thirds(1), 43 + 1 + 1 + 1 + 13);
        Game.play(hall, 2, 1, 3, 0);
        CHECKS.same("23: the partner wins", hall.thirds(0), 21 + 4);
        TarockHall five = Game.bidden(0, 5);
        CHECKS.same("23: all of the talon", five.thirds(1), 30);
        CHECKS.same("23: nothing was laid away", five.thirds(0), 0);
    }

    private static void allCardsTogether() {
        for (int level = 1; level <= 5; level++) {
            TarockHall hall = Game.dealt(777 * level);
            Game.upToPlaying(hall, level % 4, level, 1, 1);
            hall.playLowest(48);
            CHECKS.same("23: both sides at level " + level, hall.thirds(0) + hall.thirds(1), 210);
        }
    }

    private static void packsOfThree() {
        TarockHall five = Game.bidden(2, 5);
        CHECKS.same("24: 23 25 35, 44 47 53", five.byPacks(1), 5 + 5);
        CHECKS.same("24: no cards", five.byPacks(0), 0);
        Game.play(five, 8, 15, 32, 9);
        CHECKS.same("24: 8 9 15, the pagat is left", five.byPacks(0), 5);
        CHECKS.same("24: the other side is as before", five.byPacks(1), 10);
        TarockHall three = Game.playing(0, 3, 0, 3);
        CHECKS.same("24: 25 35 44, two are left", three.byPacks(1), 1);
        CHECKS.same("24: one card is no pack", three.byPacks(0), 0);
        TarockHall two = Game.taken(0, 2, 0, 2);
        two.discard(6);
        two.discard(21);
        CHECKS.same("24: two cards are no pack", two.byPacks(0), 0);
        CHECKS.same("24: 23 44 47, 53 is left", two.byPacks(1), 5);
        TarockHall one = Game.taken(0, 1, 0, 1);
        one.discard(6);
        one.discard(21);
        one.discard(12);
        CHECKS.same("24: jack, knight and queen", one.byPacks(0), 2 + 3 + 4 - 2);
        CHECKS.same("24: 44 47 53", one.byPacks(1), 5);
    }

    private static void wrongSides() {
        TarockHall hall = Game.bidden(0, 5);
        CHECKS.outside("23: thirds(-1)", hall, () -> hall.thirds(-1));
        CHECKS.outside("23: thirds(2)", hall, () -> hall.thirds(2));
        CHECKS.outside("24: byPacks(-1)", hall, () -> hall.byPacks(-1));
        TarockHall fresh = new TarockHall();
        CHECKS.outside("24: byPacks(2)", fresh, () -> fresh.byPacks(2));
        CHECKS.outside("23: thirds(greatest int)", fresh, () -> fresh.thirds(Integer.MAX_VALUE));
    }
}
