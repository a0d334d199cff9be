/** Promises 4 to 6: call, take, discard. */
public final class CallTakeDiscardTest {
    private static final Checks CHECKS = new Checks();

    public static void main(String[] args) {
        partnersOfDealNothing();
        wrongCalls();
        groupsByLevel();
        wrongGroups();
        layingAway();
        whatCannotBeLaidAway();
        laidAwayAtEachLevel();
        wrongDiscards();
        CHECKS.end("promises 4 to 6");
    }

    private static void partnersOfDealNothing() {
        int[] ownerOfKing = {3, 1, TarockHall.NONE, 0};
        for (int declarer = 0; declarer < 4; declarer++) {
            for (int suit = 0; suit < 4; suit++) {
                TarockHall hall = Game.bidden(declarer, 1 + suit % 3);
                CHECKS.same("4: not called", hall.called(), TarockHall.NONE);
                CHECKS.same("4: no partner yet", hall.partner(), TarockHall.NONE);
                CHECKS.same("4: call(" + suit + ")", hall.call(suit), TarockHall.TAKING);
                CHECKS.same("4: phase", hall.phase(), TarockHall.TAKING);
                CHECKS.same("4: turn", hall.turn(), declarer);
                CHECKS.same("4: called", hall.called(), suit);
                int due = ownerOfKing[suit] == declarer ? TarockHall.NONE : ownerOfKing[suit];
                CHECKS.same("4: partner of " + declarer + " with suit " + suit, hall.partner(), due);
            }
        }
    }

    private static void wrongCalls() {
        TarockHall hall = Game.bidden(0, 2);
        CHECKS.outside("4: call(-1)", hall, () -> hall.call(-1));
        CHECKS.outside("4: call(4)", hall, () -> hall.call(4));
        TarockHall fresh = new TarockHall();
        CHECKS.outside("4: call(4) in OVER", fresh, () -> fresh.call(4));
        CHECKS.badState("4: call in OVER", fresh, () -> fresh.call(0));
        TarockHall bidding = Game.dealt(0);
        CHECKS.badState("4: call in BIDDING", bidding, () -> bidding.call(0));
        TarockHall taking = Game.called(0, 2, 1);
        CHECKS.badState("4: call twice", taking, () -> taking.call(1));
        TarockHall alone = Game.bidden(0, 4);
        CHECKS.badState("4: call at level 4", alone, () -> alone.call(0));
        TarockHall five = Game.bidden(0, 5);
        CHECKS.badState("4: call at level 5", five, () -> five.call(0));
    }

    private static void groupsByLevel() {
        int[] sizes = {0, 3, 2, 1, 1};
        for (int level = 1; level <= 4; level++) {
            int size = sizes[level];
            for (int group = 0; group < 6 / size; group++) {
                TarockHall hall = Game.bidden(2, level);
                if (level < 4) {
                    hall.call(0);
                }
                CHECKS.same("5: phase ahead", hall.phase(), TarockHall.TAKING);
                CHECKS.same("5: take(" + group + ") at level " + level, hall.take(group), size);
                CHECKS.same("5: phase", hall.phase(), TarockHall.DISCARDING);
                CHECKS.same("5: turn", hall.turn(), 2);
                long due = Game.setOf(Game.HANDS_OF_0[2]);
                for (int k = 0; k < size; k++) {
                    due |= Game.setOf(Game.TALON_OF_0[group * size + k]);
                }
                CHECKS.same("5: hand of the declarer", hall.hand(2), due);
                CHECKS.same("5: hand of another", hall.hand(1), Game.setOf(Game.HANDS_OF_0[1]));
                CHECKS.same("5: the talon is told as dealt", hall.talonAt(group * size),
                    Game.TALON_OF_0[group * size]);
                CHECKS.same("5: nothing counts yet", hall.thirds(0) + hall.thirds(1), 0);
            }
        }
    }

    private static void wrongGroups() {
        int[] groups = {0, 2, 3, 6, 6};
        for (int level = 1; level <= 4; level++) {
            int behind = groups[level];
            TarockHall hall = Game.bidden(0, level);
            if (level < 4) {
                CHECKS.badState("5: take(5) in CALLING", hall, () -> hall.take(5));
                CHECKS.outside("5: take(6) in CALLING", hall, () -> hall.take(6));
                hall.call(0);
            }
            CHECKS.outside("5: take(" + behind + ") at level " + level, hall, () -> hall.take(behind));
            TarockHall other = Game.bidden(0, 4);
            CHECKS.outside("5: take(-1)", other, () -> other.take(-1));
            CHECKS.outside("5: take(greatest int)", other, () -> other.take(Integer.MAX_VALUE));
        }
        TarockHall fresh = new TarockHall();
        CHECKS.badState("5: take(5) in OVER", fresh, () -> fresh.take(5));
        CHECKS.outside("5: take(6) in OVER", fresh, () -> fresh.take(6));
        TarockHall one = Game.taken(0, 1, 0, 0);
        CHECKS.badState("5: take(5) in DISCARDING at level 1", one, () -> one.take(5));
        CHECKS.outside("5: take(-1) in DISCARDING", one, () -> one.take(-1));
        TarockHall playing = Game.bidden(0, 5);
        CHECKS.badState("5: take at level 5", playing, () -> playing.take(0));
        CHECKS.outside("5: take(6) at level 5", playing, () -> playing.take(6));
    }

    private static void layingAway() {
        TarockHall hall = Game.taken(0, 1, 0, 0);
        CHECKS.same("6: the first", hall.discard(0), 2);
        CHECKS.same("6: phase", hall.phase(), TarockHall.DISCARDING);
        CHECKS.same("6: a card that was taken", hall.discard(47), 1);
        CHECKS.same("6: nothing counts yet", hall.thirds(0), 0);
        CHECKS.same("6: a tarock of the hand", hall.discard(37), 0);
        CHECKS.same("6: phase", hall.phase(), TarockHall.PLAYING);
        CHECKS.same("6: turn", hall.turn(), 0);
        CHECKS.same("6: hand", hall.hand(0), Game.setOf(6, 8, 10, 12, 16, 18, 21, 26, 31, 51, 53, 44));
        CHECKS.same("6: three cards of the value 1 count", hall.thirds(0), 3);
        CHECKS.same("6: a king and two small cards count", hall.thirds(1), 13 + 1 + 1);
    }

    private static void whatCannotBeLaidAway() {
        TarockHall kings = Game.taken(0, 1, 2, 1);
        CHECKS.badState("6: a king of the hand", kings, () -> kings.discard(31));
        CHECKS.badState("6: a king that was taken", kings, () -> kings.discard(23));
        TarockHall highest = Game.taken(1, 2, 2, 0);
        CHECKS.badState("6: tarock 52", highest, () -> highest.discard(52));
        CHECKS.badState("6: tarock 53", highest, () -> highest.discard(53));
        TarockHall pagat = Game.taken(2, 3, 0, 0);
        CHECKS.badState("6: the pagat", pagat, () -> pagat.discard(32));
        CHECKS.same("6: tarock 33", pagat.discard(33), 0);
        TarockHall queen = Game.taken(0, 3, 0, 0);
        CHECKS.same("6: a queen", queen.discard(6), 0);
        CHECKS.same("6: a queen counts 10 thirds", queen.thirds(0), 10);
        TarockHall high = Game.taken(0, 3, 0, 0);
        CHECKS.same("6: tarock 51", high.discard(51), 0);
        CHECKS.same("6: tarock 51 counts 1", high.thirds(0), 1);
    }

    private static void laidAwayAtEachLevel() {
        int[] sizes = {0, 3, 2, 1, 1};
        for (int level = 1; level <= 4; level++) {
            TarockHall hall = Game.bidden(3, level);
            if (level < 4) {
                hall.call(1);
            }
            hall.take(0);
            int[] cards = {3, 4, 9};
            for (int k = 0; k < sizes[level]; k++) {
                CHECKS.same("6: left at level " + level, hall.discard(cards[k]), sizes[level] - k - 1);
            }
            CHECKS.same("6: phase at level " + level, hall.phase(), TarockHall.PLAYING);
            CHECKS.same("6: the forehand's turn", hall.turn(), 0);
            CHECKS.same("6: twelve cards again", Long.bitCount(hall.hand(3)), 12);
        }
    }

    private static void wrongDiscards() {
        TarockHall hall = Game.taken(0, 2, 0, 0);
        CHECKS.outside("6: discard(-1)", hall, () -> hall.discard(-1));
        CHECKS.outside("6: discard(54)", hall, () -> hall.discard(54));
        CHECKS.badState("6: another's card", hall, () -> hall.discard(2));
        TarockHall again = Game.taken(0, 2, 0, 0);
        CHECKS.badState("6: a card left in the talon", again, () -> again.discard(44));
        again.discard(0);
        CHECKS.badState("6: the same card again", again, () -> again.discard(0));
        TarockHall fresh = new TarockHall();
        CHECKS.outside("6: discard(54) in OVER", fresh, () -> fresh.discard(54));
        CHECKS.badState("6: discard in OVER", fresh, () -> fresh.discard(0));
        TarockHall taking = Game.called(0, 2, 0);
        CHECKS.badState("6: discard in TAKING", taking, () -> taking.discard(0));
        TarockHall playing = Game.playing(0, 2, 0, 0);
        CHECKS.badState("6: discard in PLAYING", playing, () -> playing.discard(8));
        CHECKS.outside("6: discard(54) in PLAYING", playing, () -> playing.discard(54));
    }
}
