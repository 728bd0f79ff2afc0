import java.util.Arrays;

/**
 * A salle of a bazaar in which foils settle prices: a text tells fencers and goods, bouts tell
 * what a good costs whom, and goods go from hand to hand by being met for. No call makes objects:
 * all rows are made with the object and used again.
 */
public final class FoilBazaar {
    public static final int UNKNOWN = -1, OUTSIDE = -2, STATE = -3, FULL = -4, NONE = -9;

    private static final int MOST_LETTERS = 52, MOST_LETTER = 255;
    private static final int MOST_FENCERS = 6, MOST_GOODS = 5, MOST_PRICE = 9;
    private static final int PLAIN = 0, LIAR = 1, BLIND = 2, MASTER = 3;
    private static final int NO_MOVE = 0, LUNGE = 1, PARRY = 2, FEINT = 3, WAIT = 4;
    private static final int MOVES = 3, STANCES = 3;
    private static final int MOST_PASSES = 9, ENOUGH_HITS = 3;
    private static final int FIRST_PURSE = 9, MOST_PURSE = 99, MOST_SALUTE = 9;
    private static final int MOST_ACTS = 14, MOST_SEEN = 6, MOST_SEEN_HITS = 9;
    private static final int ALL_MASKS = 64, MOVE_KINDS = 4;
    private static final int CLOUDED_PASSES = 6, TENTHS = 10;
    private static final int MOST_DOINGS = 4, DOING_SIZE = 1000;
    private static final long[] DOING_UNITS = {1L, 1000L, 1000000L, 1000000000L, 1000000000000L};
    private static final int MOST_FEASTS = 30, FEAST_KINDS = 42, FEAST_STEPS = 30, FEAST_SALUTES = 36;
    private static final int FEAST_GIFT = 2, SEED_SHIFT = 33;
    private static final long SEED_FACTOR = 6364136223846793005L, SEED_MORE = 1442695040888963407L;
    private static final int SLOTS = 2;
    private static final int FAR = 1000000;

    private final int[] text = new int[MOST_LETTERS];
    private int length;
    private final Roll draft = new Roll();
    private final Reader reader = new Reader(draft);
    private final Roll roll = new Roll();
    private final Bout bout = new Bout();
    private final Salle salle = new Salle(roll, bout);
    private final Salle trial = new Salle(roll, bout);
    private final Acts acts = new Acts();
    private final Counsel counsel = new Counsel(salle);
    private final Chances chances = new Chances(salle);
    private final Sightings sightings = new Sightings(salle);
    private final Holdings[] slots = new Holdings[SLOTS];
    private final boolean[] kept = new boolean[SLOTS];
    private long seed;

    public FoilBazaar() {
        for (int slot = 0; slot < SLOTS; slot++) {
            slots[slot] = new Holdings();
        }
    }

    // ---- the bazaar

    public int write(int letter) {
        if (letter < 0 || letter > MOST_LETTER) {
            return OUTSIDE;
        }
        if (length >= MOST_LETTERS) {
            return FULL;
        }
        text[length] = letter;
        length++;
        return length;
    }

    public int wipe() {
        int was = length;
        length = 0;
        return was;
    }

    public int fault() {
        return reader.faultOf(text, length);
    }

    public int bazaar() {
        if (reader.faultOf(text, length) != NONE) {
            return STATE;
        }
        roll.copyFrom(draft);
        salle.held.openFor(roll);
        acts.forget();
        for (int slot = 0; slot < SLOTS; slot++) {
            kept[slot] = false;
        }
        return 10 * roll.fencerCount + roll.goodCount;
    }

    public int fencer(int fencer, int what) {
        if (!roll.hasFencer(fencer)) {
            return UNKNOWN;
        }
        switch (what) {
            case 0:
                return roll.fencers[fencer].kind;
            case 1:
                return roll.fencers[fencer].movesAsFigures();
            case 2:
                return salle.held.purses[fencer];
            case 3:
                return salle.held.feet[fencer];
            case 4:
                return salle.goodsOf(fencer);
            case 5:
                salle.compareAll();
                return salle.beatenBy(fencer);
            default:
                return OUTSIDE;
        }
    }

    public int good(int good, int what) {
        if (!roll.hasGood(good)) {
            return UNKNOWN;
        }
        switch (what) {
            case 0:
                return salle.held.owners[good];
            case 1:
                return roll.prices[good];
            case 2:
                return roll.toldOwners[good];
            default:
                return OUTSIDE;
        }
    }

    // ---- bouts

    public int bout(int one, int other, int what) {
        int refusal = refusalOfPair(one, other, what, 2);
        if (refusal != NONE) {
            return refusal;
        }
        salle.fightNow(one, other);
        switch (what) {
            case 0:
                return bout.hitsOfOne;
            case 1:
                return bout.hitsOfOther;
            default:
                return bout.passes;
        }
    }

    public int cost(int fencer, int good) {
        int refusal = refusalOfTrade(fencer, good);
        return refusal != NONE ? refusal : salle.costFor(fencer, good);
    }

    // ---- acts

    public int meet(int fencer, int good) {
        int refusal = refusalOfTrade(fencer, good);
        if (refusal != NONE) {
            return refusal;
        }
        acts.remember(salle.held);
        salle.letMeet(fencer, good);
        return salle.held.owners[good];
    }

    public int step(int fencer) {
        if (!roll.hasFencer(fencer)) {
            return UNKNOWN;
        }
        acts.remember(salle.held);
        salle.letStep(fencer);
        return salle.held.feet[fencer];
    }

    public int salute(int fencer, int n) {
        if (!roll.hasFencer(fencer)) {
            return UNKNOWN;
        }
        if (n < 1 || n > MOST_SALUTE) {
            return OUTSIDE;
        }
        acts.remember(salle.held);
        salle.held.fill(fencer, n);
        return salle.held.purses[fencer];
    }

    public int undo() {
        if (acts.size == 0) {
            return STATE;
        }
        acts.takeBack(salle.held);
        return acts.size;
    }

    // ---- what is best

    public int chain(int fencer, int good, int what) {
        if (!roll.hasFencer(fencer) || !roll.hasGood(good)) {
            return UNKNOWN;
        }
        if (what < 0 || what > 1) {
            return OUTSIDE;
        }
        counsel.findChain(fencer, good);
        return what == 0 ? counsel.chainSum : counsel.chainFirst;
    }

    public int order(int what) {
        if (what < 0 || what > 1) {
            return OUTSIDE;
        }
        counsel.weighOrders();
        return what == 0 ? counsel.fewestAgainst() : counsel.bestOrder();
    }

    public int judge(int n, long row) {
        if (n < 1 || n > MOST_DOINGS || row < 0 || row >= DOING_UNITS[n]) {
            return OUTSIDE;
        }
        trial.held.copyFrom(salle.held);
        for (int place = 0; place < n; place++) {
            int doing = (int) (row / DOING_UNITS[n - 1 - place] % DOING_SIZE);
            if (!trial.holdsTrue(doing / 100, doing / 10 % 10, doing % 10)) {
                return place;
            }
        }
        return NONE;
    }

    // ---- masks

    public int see(int fencer, int h) {
        if (!roll.hasFencer(fencer)) {
            return UNKNOWN;
        }
        if (h < 0 || h > MOST_SEEN_HITS) {
            return OUTSIDE;
        }
        if (sightings.size >= MOST_SEEN) {
            return FULL;
        }
        sightings.add(fencer, h);
        return sightings.size;
    }

    public int unsee() {
        int was = sightings.size;
        sightings.size = 0;
        return was;
    }

    public int masks(int what) {
        if (what < 0 || what > 1) {
            return OUTSIDE;
        }
        sightings.findMasks();
        return what == 0 ? sightings.masks : sightings.firstMask;
    }

    // ---- shares, rests, chances

    public int share(int fencer, boolean upper) {
        if (!roll.hasFencer(fencer)) {
            return UNKNOWN;
        }
        chances.findShare(fencer);
        return chances.told(upper);
    }

    public int rests(int one, int other, int what) {
        int refusal = refusalOfPair(one, other, what, 1);
        if (refusal != NONE) {
            return refusal;
        }
        chances.findRests(one, other);
        return what == 0 ? chances.rests : chances.firstRest;
    }

    public int clouded(int one, int other, int x, boolean upper) {
        int refusal = refusalOfPair(one, other, x, TENTHS);
        if (refusal != NONE) {
            return refusal;
        }
        chances.findClouded(one, other, x);
        return chances.told(upper);
    }

    public long seed(long v) {
        long was = seed;
        seed = v;
        return was;
    }

    public int feasts(int m) {
        if (m < 1 || m > MOST_FEASTS) {
            return OUTSIDE;
        }
        trial.held.copyFrom(salle.held);
        int together = 0;
        for (int time = 0; time < m; time++) {
            seed = seed * SEED_FACTOR + SEED_MORE;
            trial.feast((int) ((seed >>> SEED_SHIFT) % FEAST_KINDS));
            together += Integer.bitCount(trial.goodsAbroad());
        }
        return together;
    }

    // ---- slots

    public int keep(int slot) {
        if (slot < 0 || slot >= SLOTS) {
            return UNKNOWN;
        }
        slots[slot].copyFrom(salle.held);
        kept[slot] = true;
        return salle.held.day;
    }

    public int again(int slot) {
        if (slot < 0 || slot >= SLOTS) {
            return UNKNOWN;
        }
        if (!kept[slot]) {
            return STATE;
        }
        salle.held.copyFrom(slots[slot]);
        acts.forget();
        return salle.held.day;
    }

    public int count(int what) {
        switch (what) {
            case 0:
                return length;
            case 1:
                return roll.fencerCount;
            case 2:
                return roll.goodCount;
            case 3:
                return salle.held.day;
            case 4:
                return sumOf(salle.held.purses);
            case 5:
                return sumOf(salle.held.feet);
            case 6:
                return salle.goodsAbroad();
            case 7:
                salle.compareAll();
                return salle.beatenByAnybody();
            case 8:
                return acts.size;
            case 9:
                return sightings.size;
            default:
                return OUTSIDE;
        }
    }

    /** Why a call about two fencers and a number from 0 to most is refused, or NONE. */
    private int refusalOfPair(int one, int other, int number, int most) {
        if (!roll.hasFencer(one) || !roll.hasFencer(other)) {
            return UNKNOWN;
        }
        return one == other || number < 0 || number > most ? OUTSIDE : NONE;
    }

    /** Why a fencer can not meet for a good, or NONE. */
    private int refusalOfTrade(int fencer, int good) {
        if (!roll.hasFencer(fencer) || !roll.hasGood(good)) {
            return UNKNOWN;
        }
        return salle.held.owners[good] == fencer ? STATE : NONE;
    }

    private static int sumOf(int[] numbers) {
        int sum = 0;
        for (int k = 0; k < numbers.length; k++) {
            sum += numbers[k];
        }
        return sum;
    }

    /** A fencer as it was told, or a mask as it is guessed. */
    private static final class Fencer {
        int kind;
        final int[] moves = new int[MOVES];

        int moveIn(int pass, int feet, int lastOfOther) {
            if (kind != BLIND) {
                int stance = kind == MASTER ? 0 : feet;
                return moves[(stance + pass) % MOVES];
            }
            if (pass == 0) {
                return WAIT;
            }
            switch (lastOfOther) {
                case LUNGE:
                    return PARRY;
                case PARRY:
                    return FEINT;
                default:
                    return LUNGE;
            }
        }

        int movesAsFigures() {
            return 100 * moves[0] + 10 * moves[1] + moves[2];
        }

        void copyFrom(Fencer source) {
            kind = source.kind;
            System.arraycopy(source.moves, 0, moves, 0, MOVES);
        }
    }

    /** What a text tells: it stays as it is until another text is made the bazaar. */
    private static final class Roll {
        final Fencer[] fencers = new Fencer[MOST_FENCERS];
        final int[] prices = new int[MOST_GOODS];
        final int[] toldOwners = new int[MOST_GOODS];
        int fencerCount;
        int goodCount;

        Roll() {
            for (int k = 0; k < MOST_FENCERS; k++) {
                fencers[k] = new Fencer();
            }
        }

        boolean hasFencer(int fencer) {
            return fencer >= 0 && fencer < fencerCount;
        }

        boolean hasGood(int good) {
            return good >= 0 && good < goodCount;
        }

        void copyFrom(Roll source) {
            fencerCount = source.fencerCount;
            goodCount = source.goodCount;
            for (int k = 0; k < MOST_FENCERS; k++) {
                fencers[k].copyFrom(source.fencers[k]);
            }
            System.arraycopy(source.prices, 0, prices, 0, MOST_GOODS);
            System.arraycopy(source.toldOwners, 0, toldOwners, 0, MOST_GOODS);
        }
    }

    /** Reads a text letter by letter into a roll, which is whole only if there was no fault. */
    private static final class Reader {
        private static final int AT_START = 0, AT_PART = 1, AT_KIND = 2, AT_MOVE = 3, AT_OWNER = 4, AT_PRICE = 5;

        final Roll into;
        int place;
        int move;

        Reader(Roll into) {
            this.into = into;
        }

        int faultOf(int[] letters, int length) {
            place = AT_START;
            into.fencerCount = 0;
            into.goodCount = 0;
            for (int at = 0; at < length && at < letters.length; at++) {
                if (!takes(letters[at])) {
                    return at;
                }
            }
            return place == AT_PART ? NONE : length;
        }

        private boolean takes(int letter) {
            switch (place) {
                case AT_START:
                    place = AT_PART;
                    return letter == 'B';
                case AT_PART:
                    return takesPart(letter);
                case AT_KIND:
                    return takesKind(letter - '0');
                case AT_MOVE:
                    return takesMove(moveOf(letter));
                case AT_OWNER:
                    return takesOwner(letter - '0');
                default:
                    return takesPrice(letter - '0');
            }
        }

        private boolean takesPart(int letter) {
            if (letter == 'F' && into.fencerCount < MOST_FENCERS) {
                place = AT_KIND;
                return true;
            }
            // without a fencer no owner could follow, so the G itself is the fault then
            if (letter == 'G' && into.goodCount < MOST_GOODS && into.fencerCount > 0) {
                place = AT_OWNER;
                return true;
            }
            return false;
        }

        private boolean takesKind(int kind) {
            if (kind < PLAIN || kind > MASTER || into.fencerCount >= MOST_FENCERS) {
                return false;
            }
            into.fencers[into.fencerCount].kind = kind;
            place = AT_MOVE;
            move = 0;
            return true;
        }

        private boolean takesMove(int made) {
            if (made == NO_MOVE || into.fencerCount >= MOST_FENCERS || move >= MOVES) {
                return false;
            }
            into.fencers[into.fencerCount].moves[move] = made;
            move++;
            if (move == MOVES) {
                into.fencerCount++;
                place = AT_PART;
            }
            return true;
        }

        private boolean takesOwner(int owner) {
            if (!into.hasFencer(owner) || into.goodCount >= MOST_GOODS) {
                return false;
            }
            into.toldOwners[into.goodCount] = owner;
            place = AT_PRICE;
            return true;
        }

        private boolean takesPrice(int price) {
            if (price < 0 || price > MOST_PRICE || into.goodCount >= MOST_GOODS) {
                return false;
            }
            into.prices[into.goodCount] = price;
            into.goodCount++;
            place = AT_PART;
            return true;
        }

        private static int moveOf(int letter) {
            switch (letter) {
                case 'l':
                    return LUNGE;
                case 'p':
                    return PARRY;
                case 'f':
                    return FEINT;
                case 'w':
                    return WAIT;
                default:
                    return NO_MOVE;
            }
        }
    }

    /** What acts change, and what slots and the row of acts keep. */
    private static final class Holdings {
        final int[] owners = new int[MOST_GOODS];
        final int[] purses = new int[MOST_FENCERS];
        final int[] feet = new int[MOST_FENCERS];
        int day;

        void openFor(Roll roll) {
            System.arraycopy(roll.toldOwners, 0, owners, 0, MOST_GOODS);
            // those that there are not hold nothing, so that sums need not look at who there is
            for (int k = 0; k < MOST_FENCERS; k++) {
                purses[k] = k < roll.fencerCount ? FIRST_PURSE : 0;
                feet[k] = 0;
            }
            day = 0;
        }

        void copyFrom(Holdings source) {
            System.arraycopy(source.owners, 0, owners, 0, MOST_GOODS);
            System.arraycopy(source.purses, 0, purses, 0, MOST_FENCERS);
            System.arraycopy(source.feet, 0, feet, 0, MOST_FENCERS);
            day = source.day;
        }

        void fill(int fencer, int more) {
            purses[fencer] = Math.min(MOST_PURSE, purses[fencer] + more);
        }
    }

    /** The row of acts: the holdings as they were ahead of each. */
    private static final class Acts {
        final Holdings[] before = new Holdings[MOST_ACTS];
        int size;

        Acts() {
            for (int k = 0; k < MOST_ACTS; k++) {
                before[k] = new Holdings();
            }
        }

        void remember(Holdings now) {
            if (size >= MOST_ACTS) {
                forgetFirst();
            }
            before[size].copyFrom(now);
            size++;
        }

        private void forgetFirst() {
            Holdings first = before[0];
            for (int k = 1; k < MOST_ACTS; k++) {
                before[k - 1] = before[k];
            }
            before[MOST_ACTS - 1] = first;
            size = MOST_ACTS - 1;
        }

        void takeBack(Holdings now) {
            if (size > 0) {
                size--;
                now.copyFrom(before[size]);
            }
        }

        void forget() {
            size = 0;
        }
    }

    /** One bout; what came of it stands until the next is fought. */
    private static final class Bout {
        int hitsOfOne;
        int hitsOfOther;
        int passes;
        final int[] leads = new int[MOST_PASSES];

        void fight(Fencer one, int feetOfOne, Fencer other, int feetOfOther, int most, int enough) {
            hitsOfOne = 0;
            hitsOfOther = 0;
            passes = 0;
            int moveOfOne = NO_MOVE;
            int moveOfOther = NO_MOVE;
            for (int pass = 0; pass < most && pass < MOST_PASSES; pass++) {
                if (hitsOfOne >= enough || hitsOfOther >= enough) {
                    break;
                }
                int next = one.moveIn(pass, feetOfOne, moveOfOther);
                moveOfOther = other.moveIn(pass, feetOfOther, moveOfOne);
                moveOfOne = next;
                int made = hits(moveOfOne, moveOfOther, other.kind);
                int taken = hits(moveOfOther, moveOfOne, one.kind);
                hitsOfOne += made;
                hitsOfOther += taken;
                leads[pass] = made - taken;
                passes++;
            }
        }

        private static int hits(int move, int against, int kindAgainst) {
            switch (move) {
                case LUNGE:
                    // a liar denies only what he was hit by while he lunged himself
                    return against == FEINT || against == WAIT
                        || against == LUNGE && kindAgainst != LIAR ? 1 : 0;
                case PARRY:
                    return against == LUNGE ? 1 : 0;
                case FEINT:
                    return against == PARRY ? 1 : 0;
                default:
                    return 0;
            }
        }

        int lead() {
            return hitsOfOne - hitsOfOther;
        }
    }

    /** Fencers and goods of a roll with their holdings: the rules by which they meet. */
    private static final class Salle {
        final Roll roll;
        final Bout bout;
        final Holdings held = new Holdings();
        final int[][] leads = new int[MOST_FENCERS][MOST_FENCERS];

        Salle(Roll roll, Bout bout) {
            this.roll = roll;
            this.bout = bout;
        }

        void fightNow(int one, int other) {
            bout.fight(roll.fencers[one], held.feet[one], roll.fencers[other], held.feet[other],
                MOST_PASSES, ENOUGH_HITS);
        }

        int costFor(int fencer, int good) {
            fightNow(fencer, held.owners[good]);
            return Math.max(0, roll.prices[good] - bout.lead());
        }

        void letMeet(int fencer, int good) {
            int owner = held.owners[good];
            int cost = costFor(fencer, good);
            if (held.purses[fencer] >= cost) {
                held.purses[fencer] -= cost;
                held.fill(owner, cost);
                held.owners[good] = fencer;
            }
            letStep(fencer);
            letStep(owner);
            held.day++;
        }

        void letStep(int fencer) {
            if (roll.fencers[fencer].kind != MASTER) {
                held.feet[fencer] = (held.feet[fencer] + 1) % STANCES;
            }
        }

        private boolean canTrade(int fencer, int good) {
            return roll.hasFencer(fencer) && roll.hasGood(good) && held.owners[good] != fencer;
        }

        /** Lets one doing happen, or looks at what it says: whether it can be, and is so. */
        boolean holdsTrue(int doing, int second, int third) {
            switch (doing) {
                case 1:
                    if (!canTrade(second, third)) {
                        return false;
                    }
                    letMeet(second, third);
                    return held.owners[third] == second;
                case 2:
                    if (second != 0 || !roll.hasFencer(third)) {
                        return false;
                    }
                    letStep(third);
                    return true;
                case 3:
                    if (!roll.hasFencer(second) || third < 1 || third > MOST_SALUTE) {
                        return false;
                    }
                    held.fill(second, third);
                    return true;
                case 4:
                    if (!roll.hasFencer(second) || !roll.hasFencer(third) || second == third) {
                        return false;
                    }
                    fightNow(second, third);
                    return bout.lead() > 0;
                case 5:
                    return roll.hasFencer(second) && roll.hasGood(third) && held.owners[third] == second;
                default:
                    return false;
            }
        }

        void feast(int drawn) {
            if (drawn < FEAST_STEPS) {
                if (canTrade(drawn / MOST_GOODS, drawn % MOST_GOODS)) {
                    letMeet(drawn / MOST_GOODS, drawn % MOST_GOODS);
                }
            } else if (drawn < FEAST_SALUTES) {
                if (roll.hasFencer(drawn - FEAST_STEPS)) {
                    letStep(drawn - FEAST_STEPS);
                }
            } else if (roll.hasFencer(drawn - FEAST_SALUTES)) {
                held.fill(drawn - FEAST_SALUTES, FEAST_GIFT);
            }
        }

        int goodsOf(int fencer) {
            int bits = 0;
            for (int good = 0; good < roll.goodCount; good++) {
                if (held.owners[good] == fencer) {
                    bits |= 1 << good;
                }
            }
            return bits;
        }

        int goodsAbroad() {
            int bits = 0;
            for (int good = 0; good < roll.goodCount; good++) {
                if (held.owners[good] != roll.toldOwners[good]) {
                    bits |= 1 << good;
                }
            }
            return bits;
        }

        /** Fills the leads of all over all; one bout tells both sides of a pair. */
        void compareAll() {
            for (int one = 0; one < roll.fencerCount; one++) {
                leads[one][one] = 0;
                for (int other = one + 1; other < roll.fencerCount; other++) {
                    fightNow(one, other);
                    leads[one][other] = bout.lead();
                    leads[other][one] = -bout.lead();
                }
            }
        }

        int beatenBy(int fencer) {
            int bits = 0;
            for (int other = 0; other < roll.fencerCount; other++) {
                if (leads[fencer][other] > 0) {
                    bits |= 1 << other;
                }
            }
            return bits;
        }

        int thoseWhoBeat(int fencer) {
            int bits = 0;
            for (int other = 0; other < roll.fencerCount; other++) {
                if (leads[other][fencer] > 0) {
                    bits |= 1 << other;
                }
            }
            return bits;
        }

        int beatenByAnybody() {
            int bits = 0;
            for (int fencer = 0; fencer < roll.fencerCount; fencer++) {
                bits |= beatenBy(fencer);
            }
            return bits;
        }
    }

    /** What is best: the cheapest way of a good, and the order with fewest against it. */
    private static final class Counsel {
        final Salle salle;
        final int[] ways = new int[MOST_FENCERS];
        final int[] beaters = new int[MOST_FENCERS];
        final int[] fewest = new int[1 << MOST_FENCERS];
        int chainSum;
        int chainFirst;

        Counsel(Salle salle) {
            this.salle = salle;
        }

        void findChain(int fencer, int good) {
            int owner = salle.held.owners[good];
            chainSum = 0;
            chainFirst = NONE;
            if (owner == fencer) {
                return;
            }
            salle.compareAll();
            int price = salle.roll.prices[good];
            findWays(fencer, owner, price);
            chainSum = FAR;
            for (int first = 0; first < salle.roll.fencerCount; first++) {
                int sum = first == owner ? FAR : costOfHand(owner, first, price) + ways[first];
                if (sum < chainSum) {
                    chainSum = sum;
                    chainFirst = first;
                }
            }
        }

        /**
         * Least sums from each hand to the fencer's that do not go through the owner's: since no
         * cost is below 0, a least way needs no hand twice, and there are as many rounds as hands.
         */
        private void findWays(int fencer, int owner, int price) {
            Arrays.fill(ways, FAR);
            ways[fencer] = 0;
            for (int round = 0; round < salle.roll.fencerCount; round++) {
                for (int from = 0; from < salle.roll.fencerCount; from++) {
                    for (int to = 0; to < salle.roll.fencerCount; to++) {
                        if (from != owner && to != owner && from != to) {
                            ways[from] = Math.min(ways[from], ways[to] + costOfHand(from, to, price));
                        }
                    }
                }
            }
        }

        private int costOfHand(int from, int to, int price) {
            return Math.max(0, price - salle.leads[to][from]);
        }

        /** For each set of fencers how few pairs are against the best order of that set. */
        void weighOrders() {
            salle.compareAll();
            int all = salle.roll.fencerCount;
            for (int fencer = 0; fencer < all; fencer++) {
                beaters[fencer] = salle.thoseWhoBeat(fencer);
            }
            fewest[0] = 0;
            for (int set = 1; set < 1 << all; set++) {
                fewest[set] = FAR;
                for (int fencer = 0; fencer < all; fencer++) {
                    if ((set >> fencer & 1) == 1) {
                        fewest[set] = Math.min(fewest[set], againstWithAhead(fencer, set));
                    }
                }
            }
        }

        private int againstWithAhead(int fencer, int set) {
            int behind = set & ~(1 << fencer);
            return Integer.bitCount(beaters[fencer] & behind) + fewest[behind];
        }

        int fewestAgainst() {
            return fewest[(1 << salle.roll.fencerCount) - 1];
        }

        int bestOrder() {
            int order = 0;
            int left = (1 << salle.roll.fencerCount) - 1;
            for (int place = 0; place < salle.roll.fencerCount; place++) {
                int next = leastAhead(left);
                order = 10 * order + next + 1;
                left &= ~(1 << next);
            }
            return order;
        }

        private int leastAhead(int set) {
            for (int fencer = 0; fencer < salle.roll.fencerCount; fencer++) {
                if ((set >> fencer & 1) == 1 && againstWithAhead(fencer, set) == fewest[set]) {
                    return fencer;
                }
            }
            return 0;
        }
    }

    /** What was seen of a mask, and the moves that it can have had. */
    private static final class Sightings {
        final Salle salle;
        final Fencer mask = new Fencer();
        final int[] seenFencers = new int[MOST_SEEN];
        final int[] seenHits = new int[MOST_SEEN];
        int size;
        int masks;
        int firstMask;

        Sightings(Salle salle) {
            this.salle = salle;
            mask.kind = PLAIN;
        }

        void add(int fencer, int hits) {
            if (size < MOST_SEEN) {
                seenFencers[size] = fencer;
                seenHits[size] = hits;
                size++;
            }
        }

        void findMasks() {
            masks = 0;
            firstMask = NONE;
            for (int number = 0; number < ALL_MASKS; number++) {
                mask.moves[0] = number / (MOVE_KINDS * MOVE_KINDS) + 1;
                mask.moves[1] = number / MOVE_KINDS % MOVE_KINDS + 1;
                mask.moves[2] = number % MOVE_KINDS + 1;
                if (fitsAll()) {
                    firstMask = masks == 0 ? mask.movesAsFigures() : firstMask;
                    masks++;
                }
            }
        }

        private boolean fitsAll() {
            for (int k = 0; k < size; k++) {
                int fencer = seenFencers[k];
                if (salle.roll.hasFencer(fencer)) {
                    salle.bout.fight(mask, 0, salle.roll.fencers[fencer], salle.held.feet[fencer],
                        MOST_PASSES, ENOUGH_HITS);
                    if (salle.bout.hitsOfOne != seenHits[k]) {
                        return false;
                    }
                }
            }
            return true;
        }
    }

    /** Shares, rests and chances; a fraction stands until the next is found. */
    private static final class Chances {
        // what all numbers of those who beat one fencer, 1 to 5, go into
        private static final int SHARE_UNITS = 60;

        final Salle salle;
        final int[] stanceLeads = new int[STANCES * STANCES];
        int above;
        int below = 1;
        int rests;
        int firstRest;

        Chances(Salle salle) {
            this.salle = salle;
        }

        /**
         * A beaten fencer counts for the first to come of those who beat it, and each of them is
         * as likely to be that one: so they have like parts in it.
         */
        void findShare(int fencer) {
            salle.compareAll();
            int beaten = salle.beatenBy(fencer);
            above = 0;
            below = SHARE_UNITS;
            for (int other = 0; other < salle.roll.fencerCount; other++) {
                int beaters = Integer.bitCount(salle.thoseWhoBeat(other));
                if ((beaten >> other & 1) == 1 && beaters > 0) {
                    above += SHARE_UNITS / beaters;
                }
            }
        }

        void findRests(int one, int other) {
            fillStanceLeads(salle.roll.fencers[one], salle.roll.fencers[other]);
            rests = 0;
            firstRest = NONE;
            for (int ofOne = 0; ofOne < STANCES; ofOne++) {
                for (int ofOther = 0; ofOther < STANCES; ofOther++) {
                    if (isRest(ofOne, ofOther)) {
                        firstRest = rests == 0 ? 10 * ofOne + ofOther : firstRest;
                        rests++;
                    }
                }
            }
        }

        private void fillStanceLeads(Fencer one, Fencer other) {
            for (int ofOne = 0; ofOne < STANCES; ofOne++) {
                for (int ofOther = 0; ofOther < STANCES; ofOther++) {
                    salle.bout.fight(one, ofOne, other, ofOther, MOST_PASSES, ENOUGH_HITS);
                    stanceLeads[STANCES * ofOne + ofOther] = salle.bout.lead();
                }
            }
        }

        private boolean isRest(int ofOne, int ofOther) {
            int lead = stanceLeads[STANCES * ofOne + ofOther];
            for (int stance = 0; stance < STANCES; stance++) {
                if (stanceLeads[STANCES * stance + ofOther] > lead || stanceLeads[STANCES * ofOne + stance] < lead) {
                    return false;
                }
            }
            return true;
        }

        void findClouded(int one, int other, int x) {
            salle.bout.fight(salle.roll.fencers[one], salle.held.feet[one], salle.roll.fencers[other],
                salle.held.feet[other], CLOUDED_PASSES, FAR);
            above = 0;
            below = 1;
            for (int pass = 0; pass < CLOUDED_PASSES; pass++) {
                below *= TENTHS;
            }
            for (int seen = 0; seen < 1 << CLOUDED_PASSES; seen++) {
                if (leadIn(seen) > 0) {
                    above += weightOf(seen, x);
                }
            }
        }

        private int leadIn(int seen) {
            int lead = 0;
            for (int pass = 0; pass < CLOUDED_PASSES; pass++) {
                lead += (seen >> pass & 1) * salle.bout.leads[pass];
            }
            return lead;
        }

        private static int weightOf(int seen, int x) {
            int weight = 1;
            for (int pass = 0; pass < CLOUDED_PASSES; pass++) {
                weight *= (seen >> pass & 1) == 1 ? TENTHS - x : x;
            }
            return weight;
        }

        int told(boolean upper) {
            int divisor = greatestDivisor();
            int part = upper ? above : below;
            return divisor > 1 ? part / divisor : part;
        }

        private int greatestDivisor() {
            int greater = below;
            int less = above;
            for (int round = 0; round < FAR && less > 0; round++) {
                int left = greater % less;
                greater = less;
                less = left;
            }
            return greater;
        }
    }
}
