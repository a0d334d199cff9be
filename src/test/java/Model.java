import java.util.ArrayList;
import java.util.List;

/**
 * The same game once more, for comparing: it keeps for each card where it lies, and looks everything else up there.
 */
final class Model {
    private static final int NOWHERE = -1;
    private static final int TALON = 4;
    private static final int LAID_AWAY = 5;
    private static final int ON_TABLE = 6;
    private static final int WON_BY = 10;

    private final int[] where = new int[54];
    private final int[] dealtTo = new int[54];
    private final List<Integer> talon = new ArrayList<>();
    private final List<Integer> trick = new ArrayList<>();
    private final List<Integer> active = new ArrayList<>();
    private final boolean[] announced = new boolean[2];
    private final int[] scores = new int[4];
    private final int[] radli = new int[4];
    private int deals;
    private int phase;
    private int turn = -1;
    private int leader;
    private int declarer = -1;
    private int level;
    private int called = -1;
    private int left;
    private int tricks;
    private int result;
    private boolean opened;
    String lastScoring = "";

    Model() {
        java.util.Arrays.fill(where, NOWHERE);
        java.util.Arrays.fill(dealtTo, NOWHERE);
    }

    private static void inside(boolean fact) {
        if (!fact) {
            throw new IndexOutOfBoundsException();
        }
    }

    private static void argument(boolean fact) {
        if (!fact) {
            throw new IllegalArgumentException();
        }
    }

    private static void state(boolean fact) {
        if (!fact) {
            throw new IllegalStateException();
        }
    }

    private int forehand() {
        return (deals - 1) % 4;
    }

    int deal(int number) {
        argument(number >= 0 && number <= 65535);
        state(phase == 0);
        deals++;
        List<Integer> row = new ArrayList<>();
        for (int card = 0; card < 54; card++) {
            row.add(card);
        }
        long x = number;
        for (int k = 53; k > 0; k--) {
            x = (25173 * x + 13849) % 65536;
            java.util.Collections.swap(row, k, (int) (x % (k + 1)));
        }
        talon.clear();
        talon.addAll(row.subList(48, 54));
        for (int place = 0; place < 54; place++) {
            int to = place < 48 ? (forehand() + place / 12) % 4 : TALON;
            where[row.get(place)] = to;
            dealtTo[row.get(place)] = to;
        }
        active.clear();
        active.addAll(List.of(forehand(), (forehand() + 1) % 4, (forehand() + 2) % 4, (forehand() + 3) % 4));
        announced[0] = false;
        announced[1] = false;
        declarer = -1;
        level = 0;
        called = -1;
        tricks = 0;
        opened = false;
        phase = 1;
        turn = forehand();
        return turn;
    }

    /** The list of those who have not passed turns: its first is the one whose turn it is. */
    int bid(int bid) {
        argument(bid >= 0 && bid <= 5);
        state(phase == 1 && (bid == 0 || bid > level));
        int bidder = active.remove(0);
        if (bid > 0) {
            level = bid;
            active.add(bidder);
        }
        if (active.isEmpty()) {
            phase = 0;
            turn = -1;
            return 0;
        }
        turn = active.get(0);
        if (active.size() == 1 && level > 0) {
            declarer = turn;
            phase = level == 5 ? 5 : level == 4 ? 3 : 2;
            open();
        }
        return phase;
    }

    private void open() {
        if (phase == 5) {
            opened = true;
            turn = forehand();
            leader = turn;
        }
    }

    int call(int suit) {
        inside(suit >= 0 && suit <= 3);
        state(phase == 2);
        called = suit;
        phase = 3;
        return 3;
    }

    int take(int group) {
        int size = phase == 3 && level == 1 ? 3 : phase == 3 && level == 2 ? 2 : 1;
        inside(group >= 0 && (long) size * group < 6);
        state(phase == 3);
        for (int card : talon.subList(size * group, size * group + size)) {
            where[card] = declarer;
        }
        left = size;
        phase = 4;
        return size;
    }

    int discard(int card) {
        inside(card >= 0 && card <= 53);
        state(phase == 4 && where[card] == declarer && valueOf(card) != 5);
        where[card] = LAID_AWAY;
        left--;
        if (left == 0) {
            phase = 5;
            open();
        }
        return left;
    }

    int announce(int bird) {
        inside(bird == 0 || bird == 1);
        state(phase == 5 && tricks == 0 && trick.isEmpty() && !announced[bird] && (bird == 0 || level <= 3));
        announced[bird] = true;
        return announced[1 - bird] ? 2 : 1;
    }

    private static int suit(int card) {
        return Math.min(card / 8, 4);
    }

    private boolean has(int player, int suit) {
        for (int card = 0; card < 54; card++) {
            if (where[card] == player && suit(card) == suit) {
                return true;
            }
        }
        return false;
    }

    boolean canPlay(int card) {
        inside(card >= 0 && card <= 53);
        if (phase != 5 || where[card] != turn) {
            return false;
        }
        if (trick.isEmpty()) {
            return true;
        }
        int led = suit(trick.get(0));
        if (has(turn, led)) {
            return suit(card) == led;
        }
        return suit(card) == 4 || !has(turn, 4);
    }

    int play(int card) {
        state(canPlay(card));
        where[card] = ON_TABLE;
        trick.add(card);
        turn = (turn + 1) % 4;
        if (trick.size() < 4) {
            return -1;
        }
        int highest = trick.get(0);
        for (int other : trick) {
            if (strength(other) > strength(highest)) {
                highest = other;
            }
        }
        int winner = player(highest);
        for (int other : trick) {
            where[other] = WON_BY + winner;
        }
        tricks++;
        if (tricks == 12) {
            enterScores(winner);
        }
        trick.clear();
        leader = winner;
        turn = phase == 0 ? -1 : winner;
        return winner;
    }

    private int strength(int card) {
        return suit(card) == 4 ? 100 + card : suit(card) == suit(trick.get(0)) ? card : -1;
    }

    private int player(int card) {
        return (leader + trick.indexOf(card)) % 4;
    }

    int playLowest(int cards) {
        argument(cards >= 1 && cards <= 48);
        state(phase == 5);
        int played = 0;
        while (played < cards && phase == 5) {
            int card = 0;
            while (!canPlay(card)) {
                card++;
            }
            play(card);
            played++;
        }
        return played;
    }

    private void enterScores(int winner) {
        int game = new int[] {0, 10, 20, 30, 50, 80}[level];
        int thirds = thirds(0);
        boolean won = thirds > 105;
        int more = level == 5 ? 0 : won ? (thirds - 105) / 3 : (105 - thirds) / 3;
        int sum = won ? game + more : -game - more;
        String pagat = "pagat elsewhere";
        boolean made = false;
        if (trick.contains(32)) {
            int player = player(32);
            made = player == winner && side(player) == 0;
            pagat = (side(player) == 0 ? "declarer's side " : "other side ") + (player == winner ? "makes" : "loses");
            if (!announced[0]) {
                sum += (player == winner ? 25 : -25) * (side(player) == 0 ? 1 : -1);
            }
            pagat += side(player) == side(winner) && player != winner ? " to its own" : "";
        }
        if (announced[0]) {
            sum += made ? 50 : -50;
        }
        String king = "no king";
        if (called >= 0) {
            boolean there = trick.contains(8 * called + 7);
            boolean wins = there && side(winner) == 0;
            king = there ? wins ? "king made" : "king lost" : "king elsewhere";
            sum += announced[1] ? (wins ? 20 : -20) : there ? (wins ? 10 : -10) : 0;
            king += dealtTo[8 * called + 7] == declarer ? ", own" : "";
            king += there && dealtTo[8 * called + 7] == TALON ? ", from the talon" : "";
        }
        phase = 0;
        result = sum;
        String fate = won ? "won" : "lost";
        if (radli[declarer] > 0) {
            result = sum * 2;
            fate += " doubled";
            radli[declarer] -= won ? 1 : 0;
        }
        scores[declarer] += result;
        if (partner() >= 0) {
            scores[partner()] += result;
        }
        for (int player = 0; player < 4 && level >= 4; player++) {
            radli[player]++;
        }
        lastScoring = "level " + level + " " + fate + "|" + pagat + (announced[0] ? " announced" : "") + "|" + king
            + (announced[1] ? " announced" : "");
    }

    private int side(int player) {
        return player == declarer || player == partner() ? 0 : 1;
    }

    int phase() {
        return phase;
    }

    int turn() {
        return turn;
    }

    int declarer() {
        return declarer;
    }

    int level() {
        return level;
    }

    int called() {
        return called;
    }

    int partner() {
        int owner = called < 0 ? -1 : dealtTo[8 * called + 7];
        return owner == TALON || owner == declarer ? -1 : owner;
    }

    long hand(int player) {
        inside(player >= 0 && player <= 3);
        long set = 0;
        for (int card = 0; card < 54; card++) {
            set += where[card] == player ? 1L << card : 0;
        }
        return set;
    }

    int talonAt(int place) {
        inside(place >= 0 && place <= 5);
        state(deals > 0);
        return talon.get(place);
    }

    int inTrick() {
        return trick.size();
    }

    int trickAt(int place) {
        return trick.get(place);
    }

    int tricks() {
        return tricks;
    }

    int valueOf(int card) {
        inside(card >= 0 && card <= 53);
        if (card > 31) {
            return card == 32 || card > 51 ? 5 : 1;
        }
        return Math.max(1, card % 8 - 2);
    }

    private List<Integer> cardsOf(int side) {
        inside(side == 0 || side == 1);
        List<Integer> cards = new ArrayList<>();
        for (int card = 0; card < 54 && opened; card++) {
            int place = where[card];
            boolean won = place >= WON_BY && side(place - WON_BY) == side;
            if (won || place == (side == 0 ? LAID_AWAY : TALON)) {
                cards.add(card);
            }
        }
        return cards;
    }

    int thirds(int side) {
        int sum = 0;
        for (int card : cardsOf(side)) {
            sum += 3 * valueOf(card) - 2;
        }
        return sum;
    }

    int byPacks(int side) {
        List<Integer> cards = cardsOf(side);
        int sum = 0;
        for (int k = 2; k < cards.size(); k += 3) {
            sum += valueOf(cards.get(k - 2)) + valueOf(cards.get(k - 1)) + valueOf(cards.get(k)) - 2;
        }
        return sum;
    }

    int score(int player) {
        inside(player >= 0 && player <= 3);
        return scores[player];
    }

    int radli(int player) {
        inside(player >= 0 && player <= 3);
        return radli[player];
    }

    int result() {
        return result;
    }

    int knows(int player, int other) {
        inside(player >= 0 && player <= 3 && other >= 0 && other <= 3);
        if (declarer < 0 || phase == 2) {
            return -1;
        }
        if (level <= 3) {
            int king = 8 * called + 7;
            boolean played = where[king] >= ON_TABLE;
            boolean open = played || dealtTo[king] == TALON;
            if (!open && dealtTo[king] != player && other != declarer && other != player) {
                return -1;
            }
        }
        return side(other);
    }
}
