import java.util.ArrayList;
import java.util.List;
import java.util.TreeMap;

/** Long runs of calls, good and bad ones, each answer compared with the model's. */
public final class ModelTest {
    private static final Checks CHECKS = new Checks();
    private static final int RUNS = 6000;
    private static final int CALLS_OF_AN_OBJECT = 512;
    private static final TreeMap<String, Integer> MET = new TreeMap<>();

    private final TarockHall hall = new TarockHall();
    private final Model model = new Model();
    private final Numbers numbers;
    private final int run;
    private final boolean birdsHeldBack;
    private final int wrongOnesInHundred;
    private int calls;

    private ModelTest(int run) {
        this.run = run;
        numbers = new Numbers(run);
        birdsHeldBack = numbers.below(3) > 0;
        wrongOnesInHundred = numbers.below(25);
    }

    public static void main(String[] args) {
        for (int run = 0; run < RUNS; run++) {
            new ModelTest(run).runOfCalls();
        }
        everythingWasMet();
        CHECKS.end("all promises, compared with the model");
    }

    /** The same numbers each time, from a seed. */
    private static final class Numbers {
        private long x;

        Numbers(long seed) {
            x = seed * 7919 + 17;
        }

        int below(int bound) {
            x = x * 6364136223846793005L + 1442695040888963407L;
            return (int) ((x >>> 33) % bound);
        }
    }

    private void runOfCalls() {
        while (calls < CALLS_OF_AN_OBJECT) {
            if (numbers.below(100) < wrongOnesInHundred) {
                anyMove();
            } else {
                goodMove();
            }
            for (int k = numbers.below(3); k > 0; k--) {
                look();
            }
            if (numbers.below(40) == 0) {
                lookAtAll();
            }
        }
    }

    private void compare(String what, Checks.Call real, Checks.Call due) {
        calls++;
        if (calls > CALLS_OF_AN_OBJECT) {
            return;
        }
        CHECKS.same("run " + run + ", call " + calls + ", " + what, Answers.of(real), Answers.of(due));
    }

    // ---- moves

    private void goodMove() {
        switch (model.phase()) {
            case TarockHall.OVER -> move(0, numbers.below(65536));
            case TarockHall.BIDDING -> move(1, goodBid());
            case TarockHall.CALLING -> move(2, numbers.below(4));
            case TarockHall.TAKING -> move(3, numbers.below(model.level() == 1 ? 2 : model.level() == 2 ? 3 : 6));
            case TarockHall.DISCARDING -> move(4, oneOf(model.hand(model.declarer())));
            default -> goodPlay();
        }
    }

    private int goodBid() {
        int above = model.level() + 1;
        return above > 5 || numbers.below(3) > 0 ? 0 : above + numbers.below(6 - above);
    }

    private void goodPlay() {
        if (model.tricks() == 0 && model.inTrick() == 0 && numbers.below(3) == 0) {
            move(5, numbers.below(2));
        }
        if (numbers.below(4) == 0) {
            move(7, 1 + numbers.below(birdsHeldBack ? 3 : 12));
            return;
        }
        long can = 0;
        for (int card = 0; card < 54; card++) {
            can |= model.canPlay(card) ? 1L << card : 0;
        }
        long birds = Game.setOf(32) | (model.called() >= 0 ? Game.setOf(8 * model.called() + 7) : 0);
        boolean hold = birdsHeldBack && (can & ~birds) != 0;
        move(6, oneOf(hold ? can & ~birds : can));
    }

    private int oneOf(long set) {
        List<Integer> cards = new ArrayList<>();
        for (int card = 0; card < 54; card++) {
            if ((set >> card & 1) == 1) {
                cards.add(card);
            }
        }
        return cards.isEmpty() ? 0 : cards.get(numbers.below(cards.size()));
    }

    private void anyMove() {
        int[] bounds = {65536, 6, 4, 6, 54, 2, 54, 49};
        int kind = numbers.below(8);
        move(kind, anyArgument(bounds[kind]));
    }

    private int anyArgument(int bound) {
        int[] wrong = {-1, bound, bound + 1, Integer.MIN_VALUE, Integer.MAX_VALUE};
        return numbers.below(6) == 0 ? wrong[numbers.below(wrong.length)] : numbers.below(bound);
    }

    private void move(int kind, int n) {
        switch (kind) {
            case 0 -> compare("deal(" + n + ")", () -> hall.deal(n), () -> model.deal(n));
            case 1 -> compare("bid(" + n + ")", () -> hall.bid(n), () -> model.bid(n));
            case 2 -> compare("call(" + n + ")", () -> hall.call(n), () -> model.call(n));
            case 3 -> compare("take(" + n + ")", () -> hall.take(n), () -> model.take(n));
            case 4 -> compare("discard(" + n + ")", () -> hall.discard(n), () -> model.discard(n));
            case 5 -> compare("announce(" + n + ")", () -> hall.announce(n), () -> model.announce(n));
            case 6 -> compare("play(" + n + ")", () -> hall.play(n), () -> model.play(n));
            default -> compare("playLowest(" + n + ")", () -> hall.playLowest(n), () -> model.playLowest(n));
        }
        noteScoring();
    }

    // ---- looks

    private void look() {
        int kind = numbers.below(18);
        int[] bounds = {1, 1, 1, 1, 1, 1, 1, 1, 1, 4, 6, 4, 54, 54, 2, 2, 4, 4};
        if (numbers.below(5) == 0) {
            lookAtKnows(anyArgument(4), anyArgument(4));
        } else if (kind < 9) {
            lookAtNumber(kind);
        } else {
            lookAtPlace(kind, anyArgument(bounds[kind]));
        }
    }

    private void lookAtAll() {
        for (int kind = 0; kind < 9; kind++) {
            lookAtNumber(kind);
        }
        for (int player = 0; player < 4; player++) {
            for (int kind : new int[] {9, 11, 16, 17}) {
                lookAtPlace(kind, player);
            }
            for (int other = 0; other < 4; other++) {
                lookAtKnows(player, other);
            }
        }
        for (int side = 0; side < 2; side++) {
            lookAtPlace(14, side);
            lookAtPlace(15, side);
        }
    }

    private void lookAtNumber(int kind) {
        switch (kind) {
            case 0 -> compare("phase()", hall::phase, model::phase);
            case 1 -> compare("turn()", hall::turn, model::turn);
            case 2 -> compare("declarer()", hall::declarer, model::declarer);
            case 3 -> compare("level()", hall::level, model::level);
            case 4 -> compare("called()", hall::called, model::called);
            case 5 -> compare("partner()", hall::partner, model::partner);
            case 6 -> compare("inTrick()", hall::inTrick, model::inTrick);
            case 7 -> compare("tricks()", hall::tricks, model::tricks);
            default -> compare("result()", hall::result, model::result);
        }
    }

    private void lookAtPlace(int kind, int n) {
        switch (kind) {
            case 9 -> compare("hand(" + n + ")", () -> hall.hand(n), () -> model.hand(n));
            case 10 -> compare("talonAt(" + n + ")", () -> hall.talonAt(n), () -> model.talonAt(n));
            case 11 -> compare("trickAt(" + n + ")", () -> hall.trickAt(n), () -> model.trickAt(n));
            case 12 -> compare("canPlay(" + n + ")", () -> hall.canPlay(n) ? 1 : 0, () -> model.canPlay(n) ? 1 : 0);
            case 13 -> compare("valueOf(" + n + ")", () -> hall.valueOf(n), () -> model.valueOf(n));
            case 14 -> compare("thirds(" + n + ")", () -> hall.thirds(n), () -> model.thirds(n));
            case 15 -> compare("byPacks(" + n + ")", () -> hall.byPacks(n), () -> model.byPacks(n));
            case 16 -> compare("score(" + n + ")", () -> hall.score(n), () -> model.score(n));
            default -> compare("radli(" + n + ")", () -> hall.radli(n), () -> model.radli(n));
        }
    }

    private void lookAtKnows(int n, int m) {
        compare("knows(" + n + ", " + m + ")", () -> hall.knows(n, m), () -> model.knows(n, m));
    }

    // ---- what the runs have met

    private void noteScoring() {
        if (model.lastScoring.isEmpty()) {
            return;
        }
        for (String part : model.lastScoring.split("\\|")) {
            MET.merge(part, 1, Integer::sum);
        }
        model.lastScoring = "";
    }

    /** A comparison of scores is worth only what the runs have reached. */
    private static void everythingWasMet() {
        List<String> due = new ArrayList<>();
        for (int level = 1; level <= 5; level++) {
            for (String fate : new String[] {"won", "lost", "won doubled", "lost doubled"}) {
                due.add("level " + level + " " + fate);
            }
        }
        for (String bird : new String[] {"pagat elsewhere", "declarer's side makes", "declarer's side loses",
            "declarer's side loses to its own", "other side makes", "other side loses", "other side loses to its own",
            "king made", "king lost", "king elsewhere", "king made, own", "king lost, own", "king elsewhere, own",
            "king made, from the talon", "king lost, from the talon"}) {
            due.add(bird);
            due.add(bird + " announced");
        }
        for (String what : due) {
            CHECKS.holds("the runs meet: " + what, MET.getOrDefault(what, 0) > 0);
        }
    }
}
