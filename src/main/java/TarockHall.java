/**
 * A hall for a game of tarock for four players: dealing, bidding, calling, the talon, announcing, playing and
 * scoring, over many deals.
 */
public final class TarockHall {
    public static final int NONE = -1;
    public static final int OVER = 0, BIDDING = 1, CALLING = 2, TAKING = 3, DISCARDING = 4, PLAYING = 5;
    public static final int PAGAT = 0, KING = 1;

    private static final int PLAYERS = 4;
    private static final int CARDS = 54;
    private static final int HAND_SIZE = 12;
    private static final int TALON_SIZE = 6;
    private static final int TALON_START = PLAYERS * HAND_SIZE;
    private static final int ALL_TRICKS = 12;
    private static final int DEAL_NUMBERS = 65536;

    private static final int SUITS = 4;
    private static final int SUIT_SIZE = 8;
    private static final int KING_RANK = 7;
    private static final int TAROCKS = 4;
    private static final int PAGAT_CARD = 32;
    private static final int GREATEST_VALUE = 5;

    private static final int LAST_KING_LEVEL = 3;
    private static final int LAST_TALON_LEVEL = 4;
    private static final int LAST_LEVEL = 5;

    private static final int BIRDS = 2;
    private static final int SIDES = 2;
    private static final int DECLARERS = 0;
    private static final int OTHERS = 1;
    private static final int HALF_OF_THIRDS = 105;
    private static final int PAGAT_POINTS = 25, PAGAT_POINTS_ANNOUNCED = 50;
    private static final int KING_POINTS = 10, KING_POINTS_ANNOUNCED = 20;

    private final Deck deck;
    private final Bidding bidding;
    private final Trick trick;
    private final Sheet sheet;
    private final Sets hands;
    private final Sets piles;
    private int forehand;
    private int phase;
    private int turn;
    private int declarer;
    private int called;
    private int kingOwner;
    private int partner;
    private int toLayAway;
    private long laidAway;
    private long restOfTalon;
    private int announced;
    private int tricks;

    public TarockHall() {
        deck = new Deck();
        bidding = new Bidding();
        trick = new Trick();
        sheet = new Sheet();
        hands = new Sets(PLAYERS);
        piles = new Sets(SIDES);
        forehand = NONE;
        phase = OVER;
        turn = NONE;
        declarer = NONE;
        called = NONE;
        kingOwner = NONE;
        partner = NONE;
    }

    // ---- a deal

    public int deal(int number) throws IllegalArgumentException, IllegalStateException {
        if (number < 0 || number >= DEAL_NUMBERS) {
            throw new IllegalArgumentException("no such number of a deal");
        }
        if (phase != OVER) {
            throw new IllegalStateException("the latest deal is not over");
        }
        forehand = behind(forehand);
        clearDeal();
        deck.shuffle(number);
        handOut();
        phase = BIDDING;
        turn = forehand;
        return forehand;
    }

    public int bid(int level) throws IllegalArgumentException, IllegalStateException {
        if (level < 0 || level > LAST_LEVEL) {
            throw new IllegalArgumentException("no such level");
        }
        if (phase != BIDDING) {
            throw new IllegalStateException("nobody bids now");
        }
        if (level > 0 && level <= bidding.highest) {
            throw new IllegalStateException("the level is not above the highest one");
        }
        bidding.enter(turn, level);
        if (bidding.allPassed()) {
            endDeal();
        } else if (bidding.isSettled()) {
            beginGame();
        } else {
            turn = bidding.nextBehind(turn);
        }
        return phase;
    }

    public int call(int suit) throws IndexOutOfBoundsException, IllegalStateException {
        if (suit < 0 || suit >= SUITS) {
            throw new IndexOutOfBoundsException("no such suit");
        }
        if (phase != CALLING) {
            throw new IllegalStateException("no king is called now");
        }
        called = suit;
        kingOwner = ownerOf(calledKing());
        partner = kingOwner == declarer ? NONE : kingOwner;
        phase = TAKING;
        return phase;
    }

    public int take(int group) throws IndexOutOfBoundsException, IllegalStateException {
        if (group < 0 || group >= groupsNow()) {
            throw new IndexOutOfBoundsException("no such group");
        }
        if (phase != TAKING) {
            throw new IllegalStateException("nothing is taken of the talon now");
        }
        int size = groupSize(bidding.highest);
        long taken = deck.cardsFrom(TALON_START + group * size, size);
        hands.put(declarer, hands.at(declarer) | taken);
        restOfTalon &= ~taken;
        toLayAway = size;
        phase = DISCARDING;
        return size;
    }

    public int discard(int card) throws IndexOutOfBoundsException, IllegalStateException {
        if (!isCard(card)) {
            throw new IndexOutOfBoundsException("no such card");
        }
        if (phase != DISCARDING) {
            throw new IllegalStateException("nothing is laid away now");
        }
        long cards = hands.at(declarer);
        if (!holds(cards, card) || !canBeLaidAway(card)) {
            throw new IllegalStateException("the declarer cannot lay the card away");
        }
        hands.put(declarer, cards & ~only(card));
        laidAway |= only(card);
        toLayAway--;
        if (toLayAway == 0) {
            beginPlay();
        }
        return toLayAway;
    }

    public int announce(int bird) throws IndexOutOfBoundsException, IllegalStateException {
        if (bird < 0 || bird >= BIRDS) {
            throw new IndexOutOfBoundsException("no such bird");
        }
        if (phase != PLAYING || tricks > 0 || trick.size > 0) {
            throw new IllegalStateException("birds are announced ahead of the first trick");
        }
        if (isAnnounced(bird)) {
            throw new IllegalStateException("the bird is announced");
        }
        if (bird == KING && bidding.highest > LAST_KING_LEVEL) {
            throw new IllegalStateException("no king is called at this level");
        }
        announced |= 1 << bird;
        return Integer.bitCount(announced);
    }

    public int play(int card) throws IndexOutOfBoundsException, IllegalStateException {
        if (!isCard(card)) {
            throw new IndexOutOfBoundsException("no such card");
        }
        if (!holds(playableNow(), card)) {
            throw new IllegalStateException("the card cannot be played now");
        }
        return addToTrick(card);
    }

    public int playLowest(int cards) throws IllegalArgumentException, IllegalStateException {
        if (cards < 1 || cards > PLAYERS * HAND_SIZE) {
            throw new IllegalArgumentException("no such number of cards");
        }
        if (phase != PLAYING) {
            throw new IllegalStateException("nobody plays now");
        }
        int played = 0;
        for (int k = 0; k < cards && phase == PLAYING; k++) {
            addToTrick(lowestOf(playableNow()));
            played++;
        }
        return played;
    }

    // ---- what there is

    public int phase() {
        return phase;
    }

    public int turn() {
        return turn;
    }

    public int declarer() {
        return declarer;
    }

    public int level() {
        return bidding.highest;
    }

    public int called() {
        return called;
    }

    public int partner() {
        return partner;
    }

    public long hand(int player) throws IndexOutOfBoundsException {
        if (!isPlayer(player)) {
            throw new IndexOutOfBoundsException("no such player");
        }
        return hands.at(player);
    }

    public int talonAt(int place) throws IndexOutOfBoundsException, IllegalStateException {
        if (place < 0 || place >= TALON_SIZE) {
            throw new IndexOutOfBoundsException("no such place in the talon");
        }
        if (forehand == NONE) {
            throw new IllegalStateException("there was no deal");
        }
        return deck.cardAt(TALON_START + place);
    }

    public int inTrick() {
        return trick.size;
    }

    public int trickAt(int place) throws IndexOutOfBoundsException {
        if (place < 0 || place >= trick.size) {
            throw new IndexOutOfBoundsException("no such card in the trick");
        }
        return trick.cardAt(place);
    }

    public boolean canPlay(int card) throws IndexOutOfBoundsException {
        if (!isCard(card)) {
            throw new IndexOutOfBoundsException("no such card");
        }
        return holds(playableNow(), card);
    }

    public int tricks() {
        return tricks;
    }

    // ---- counting

    public int valueOf(int card) throws IndexOutOfBoundsException {
        if (!isCard(card)) {
            throw new IndexOutOfBoundsException("no such card");
        }
        return worth(card);
    }

    public int thirds(int side) throws IndexOutOfBoundsException {
        if (!isSide(side)) {
            throw new IndexOutOfBoundsException("no such side");
        }
        return thirdsOf(piles.at(side));
    }

    public int byPacks(int side) throws IndexOutOfBoundsException {
        if (!isSide(side)) {
            throw new IndexOutOfBoundsException("no such side");
        }
        return packPointsOf(piles.at(side));
    }

    public int score(int player) throws IndexOutOfBoundsException {
        if (!isPlayer(player)) {
            throw new IndexOutOfBoundsException("no such player");
        }
        return sheet.scores.at(player);
    }

    public int radli(int player) throws IndexOutOfBoundsException {
        if (!isPlayer(player)) {
            throw new IndexOutOfBoundsException("no such player");
        }
        return sheet.radli.at(player);
    }

    public int result() {
        return sheet.latest;
    }

    // ---- what is known of partners

    public int knows(int player, int other) throws IndexOutOfBoundsException {
        if (!isPlayer(player) || !isPlayer(other)) {
            throw new IndexOutOfBoundsException("no such player");
        }
        if (declarer == NONE || phase == CALLING) {
            return NONE;
        }
        boolean known = other == declarer || other == player || player == kingOwner || sidesAreOpen();
        return known ? sideOf(other) : NONE;
    }

    // ---- the course of a deal

    private void clearDeal() {
        bidding.clear();
        trick.begin(forehand);
        declarer = NONE;
        called = NONE;
        kingOwner = NONE;
        partner = NONE;
        toLayAway = 0;
        laidAway = 0;
        announced = 0;
        tricks = 0;
        piles.put(DECLARERS, 0);
        piles.put(OTHERS, 0);
    }

    private void handOut() {
        int player = forehand;
        for (int k = 0; k < PLAYERS; k++) {
            hands.put(player, deck.cardsFrom(k * HAND_SIZE, HAND_SIZE));
            player = behind(player);
        }
        restOfTalon = deck.cardsFrom(TALON_START, TALON_SIZE);
    }

    private void beginGame() {
        declarer = bidding.bidder;
        turn = declarer;
        if (bidding.highest <= LAST_KING_LEVEL) {
            phase = CALLING;
        } else if (bidding.highest <= LAST_TALON_LEVEL) {
            phase = TAKING;
        } else {
            beginPlay();
        }
    }

    // What was laid away and the rest of the talon count from here on, not while the declarer still chooses.
    private void beginPlay() {
        piles.put(DECLARERS, laidAway);
        piles.put(OTHERS, restOfTalon);
        phase = PLAYING;
        turn = forehand;
    }

    private int addToTrick(int card) {
        hands.put(turn, hands.at(turn) & ~only(card));
        trick.add(card);
        if (trick.size < PLAYERS) {
            turn = behind(turn);
            return NONE;
        }
        int winner = trick.winner();
        endTrick(winner);
        return winner;
    }

    // The cards of the last trick have to lie there until the birds are counted.
    private void endTrick(int winner) {
        int side = sideOf(winner);
        piles.put(side, piles.at(side) | trick.cardSet());
        tricks++;
        turn = winner;
        if (tricks == ALL_TRICKS) {
            enterResult(winner);
            endDeal();
        }
        trick.begin(winner);
    }

    private void endDeal() {
        phase = OVER;
        turn = NONE;
    }

    private void enterResult(int lastWinner) {
        int level = bidding.highest;
        int thirds = thirdsOf(piles.at(DECLARERS));
        int points = gamePoints(level, thirds) + pagatPoints(lastWinner) + kingPoints(lastWinner);
        sheet.enter(declarer, partner, points, isWon(thirds));
        if (level > LAST_KING_LEVEL) {
            sheet.giveRadli();
        }
    }

    // The pagat makes points also for the other side: who fails with it gives them to those it plays against.
    private int pagatPoints(int lastWinner) {
        int owner = trick.playerOf(PAGAT_CARD);
        boolean wins = owner == lastWinner;
        boolean ofDeclarers = owner != NONE && sideOf(owner) == DECLARERS;
        if (isAnnounced(PAGAT)) {
            return wins && ofDeclarers ? PAGAT_POINTS_ANNOUNCED : -PAGAT_POINTS_ANNOUNCED;
        }
        if (owner == NONE) {
            return 0;
        }
        return wins == ofDeclarers ? PAGAT_POINTS : -PAGAT_POINTS;
    }

    private int kingPoints(int lastWinner) {
        boolean inLastTrick = called != NONE && trick.playerOf(calledKing()) != NONE;
        boolean made = inLastTrick && sideOf(lastWinner) == DECLARERS;
        if (isAnnounced(KING)) {
            return made ? KING_POINTS_ANNOUNCED : -KING_POINTS_ANNOUNCED;
        }
        if (!inLastTrick) {
            return 0;
        }
        return made ? KING_POINTS : -KING_POINTS;
    }

    // ---- small questions about the deal

    private int groupsNow() {
        return phase == TAKING ? groupsAt(bidding.highest) : TALON_SIZE;
    }

    private long playableNow() {
        return phase == PLAYING ? playableOf(hands.at(turn), trick.ledSuit()) : 0;
    }

    private boolean isAnnounced(int bird) {
        return (announced >> bird & 1) == 1;
    }

    private int calledKing() {
        return SUIT_SIZE * called + KING_RANK;
    }

    private int ownerOf(int card) {
        for (int player = 0; player < PLAYERS; player++) {
            if (holds(hands.at(player), card)) {
                return player;
            }
        }
        return NONE;
    }

    private int sideOf(int player) {
        return player == declarer || player == partner ? DECLARERS : OTHERS;
    }

    // A king cannot be laid away, so that the called one is played when its owner does not have it any more.
    private boolean sidesAreOpen() {
        return called == NONE || kingOwner == NONE || !holds(hands.at(kingOwner), calledKing());
    }

    // ---- rules that need no deal

    private static boolean isPlayer(int player) {
        return player >= 0 && player < PLAYERS;
    }

    private static boolean isCard(int card) {
        return card >= 0 && card < CARDS;
    }

    private static boolean isSide(int side) {
        return side >= 0 && side < SIDES;
    }

    private static int behind(int player) {
        return (player + 1) % PLAYERS;
    }

    private static int suitOf(int card) {
        return card < PAGAT_CARD ? card / SUIT_SIZE : TAROCKS;
    }

    private static int worth(int card) {
        if (suitOf(card) == TAROCKS) {
            return card == PAGAT_CARD || card >= CARDS - 2 ? GREATEST_VALUE : 1;
        }
        int rank = card % SUIT_SIZE;
        return rank > 3 ? rank - 2 : 1;
    }

    // The cards with the value 5 are the kings and just the tarocks that are named beside them.
    private static boolean canBeLaidAway(int card) {
        return worth(card) < GREATEST_VALUE;
    }

    // The levels 1 and 2 have two groups of three cards and three groups of two, the others six of one card.
    private static int groupSize(int level) {
        return level < LAST_KING_LEVEL ? 4 - level : 1;
    }

    private static int groupsAt(int level) {
        return level < LAST_KING_LEVEL ? level + 1 : TALON_SIZE;
    }

    private static boolean isWon(int thirds) {
        return thirds > HALF_OF_THIRDS;
    }

    private static int gamePoints(int level, int thirds) {
        int points = basePoints(level);
        if (level <= LAST_TALON_LEVEL) {
            points += Math.abs(thirds - HALF_OF_THIRDS) / 3;
        }
        return isWon(thirds) ? points : -points;
    }

    private static int basePoints(int level) {
        switch (level) {
            case 1:
                return 10;
            case 2:
                return 20;
            case 3:
                return 30;
            case 4:
                return 50;
            default:
                return 80;
        }
    }

    // ---- sets of cards: card c is the bit c

    private static long only(int card) {
        return 1L << card;
    }

    private static boolean holds(long set, int card) {
        return (set >> card & 1) == 1;
    }

    private static long cardsOfSuit(long set, int suit) {
        long allOfSuit = suit == TAROCKS ? -1L << PAGAT_CARD : 255L << SUIT_SIZE * suit;
        return set & allOfSuit;
    }

    private static long playableOf(long hand, int ledSuit) {
        if (ledSuit == NONE) {
            return hand;
        }
        long following = cardsOfSuit(hand, ledSuit);
        if (following != 0) {
            return following;
        }
        long tarocks = cardsOfSuit(hand, TAROCKS);
        return tarocks != 0 ? tarocks : hand;
    }

    private static int lowestOf(long set) {
        for (int card = 0; card < CARDS; card++) {
            if (holds(set, card)) {
                return card;
            }
        }
        return NONE;
    }

    private static int thirdsOf(long set) {
        int sum = 0;
        for (int card = 0; card < CARDS; card++) {
            if (holds(set, card)) {
                sum += 3 * worth(card) - 2;
            }
        }
        return sum;
    }

    private static int packPointsOf(long set) {
        int points = 0;
        int inPack = 0;
        int packValue = 0;
        for (int card = 0; card < CARDS; card++) {
            if (holds(set, card)) {
                packValue += worth(card);
                inPack++;
            }
            if (inPack == 3) {
                points += packValue - 2;
                inPack = 0;
                packValue = 0;
            }
        }
        return points;
    }

    /** Numbers at places from 0 on; beyond its ends there is NONE, and nothing can be put there. */
    private static final class Row {
        private final int[] items;

        Row(int length) {
            items = new int[Math.max(length, 0)];
        }

        int at(int place) {
            return place >= 0 && place < items.length ? items[place] : NONE;
        }

        void put(int place, int item) {
            if (place >= 0 && place < items.length) {
                items[place] = item;
            }
        }
    }

    /** Sets of cards at places from 0 on; beyond its ends there is the empty set, and nothing can be put there. */
    private static final class Sets {
        private final long[] items;

        Sets(int length) {
            items = new long[Math.max(length, 0)];
        }

        long at(int place) {
            return place >= 0 && place < items.length ? items[place] : 0;
        }

        void put(int place, long set) {
            if (place >= 0 && place < items.length) {
                items[place] = set;
            }
        }
    }

    /** The row of the cards, from which hands and talon are dealt; it keeps the order until the next deal. */
    private static final class Deck {
        private final Row row;

        Deck() {
            row = new Row(CARDS);
        }

        void shuffle(int number) {
            for (int place = 0; place < CARDS; place++) {
                row.put(place, place);
            }
            int x = number;
            for (int k = CARDS - 1; k >= 1; k--) {
                x = (25173 * x + 13849) % DEAL_NUMBERS;
                swap(k, x % (k + 1));
            }
        }

        private void swap(int one, int other) {
            int card = row.at(one);
            row.put(one, row.at(other));
            row.put(other, card);
        }

        int cardAt(int place) {
            return row.at(place);
        }

        long cardsFrom(int place, int count) {
            long set = 0;
            for (int k = 0; k < count; k++) {
                set |= only(row.at(place + k));
            }
            return set;
        }
    }

    /** Who has passed, and who has bid what at the highest. */
    private static final class Bidding {
        private int passed;
        private int highest;
        private int bidder;

        Bidding() {
            bidder = NONE;
        }

        void clear() {
            passed = 0;
            highest = 0;
            bidder = NONE;
        }

        void enter(int player, int level) {
            if (level == 0) {
                passed |= 1 << player;
            } else {
                highest = level;
                bidder = player;
            }
        }

        boolean allPassed() {
            return Integer.bitCount(passed) == PLAYERS;
        }

        boolean isSettled() {
            return bidder != NONE && Integer.bitCount(passed) == PLAYERS - 1;
        }

        int nextBehind(int player) {
            int next = behind(player);
            for (int k = 1; k < PLAYERS && hasPassed(next); k++) {
                next = behind(next);
            }
            return next;
        }

        private boolean hasPassed(int player) {
            return (passed >> player & 1) == 1;
        }
    }

    /** The cards of the trick that has begun, in the order in which they were played. */
    private static final class Trick {
        private final Row cards;
        private int leader;
        private int size;

        Trick() {
            cards = new Row(PLAYERS);
        }

        void begin(int player) {
            leader = player;
            size = 0;
        }

        void add(int card) {
            cards.put(size, card);
            size++;
        }

        int cardAt(int place) {
            return cards.at(place);
        }

        int ledSuit() {
            return size > 0 ? suitOf(cards.at(0)) : NONE;
        }

        long cardSet() {
            long set = 0;
            for (int place = 0; place < size; place++) {
                set |= only(cards.at(place));
            }
            return set;
        }

        int playerOf(int card) {
            for (int place = 0; place < size; place++) {
                if (cards.at(place) == card) {
                    return playerAt(place);
                }
            }
            return NONE;
        }

        int winner() {
            int best = 0;
            for (int place = 1; place < size; place++) {
                if (beats(cards.at(place), cards.at(best))) {
                    best = place;
                }
            }
            return playerAt(best);
        }

        private int playerAt(int place) {
            return (leader + place) % PLAYERS;
        }

        // The best card so far is of the suit that was led, or a tarock: another suit than these never wins.
        private static boolean beats(int card, int best) {
            boolean sameSuit = suitOf(card) == suitOf(best);
            return sameSuit ? card > best : suitOf(card) == TAROCKS;
        }
    }

    /** What stays over many deals: the scores, the radli and the latest result. */
    private static final class Sheet {
        private final Row scores;
        private final Row radli;
        private int latest;

        Sheet() {
            scores = new Row(PLAYERS);
            radli = new Row(PLAYERS);
        }

        void enter(int declarer, int partner, int points, boolean won) {
            boolean doubled = radli.at(declarer) > 0;
            latest = doubled ? 2 * points : points;
            if (doubled && won) {
                radli.put(declarer, radli.at(declarer) - 1);
            }
            addScore(declarer);
            if (partner != NONE) {
                addScore(partner);
            }
        }

        void giveRadli() {
            for (int player = 0; player < PLAYERS; player++) {
                radli.put(player, radli.at(player) + 1);
            }
        }

        private void addScore(int player) {
            scores.put(player, scores.at(player) + latest);
        }
    }
}
