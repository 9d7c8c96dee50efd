/**
 * A town where nothing is so unless there is a slip for it on a spike.
 * The promises are in ../shared/DOC.md; words in capitals are that document's terms.
 */
public final class SpikeTown {
    public static final int UNKNOWN = -1, BAD = -2, LATE = -3, FULL = -4, NONE = -9;

    private static final int SLIPS = 8, SPIKES = 3, THINGS = 6, SLOTS = 2;
    private static final int SETS_OF_SLIPS = 1 << SLIPS, SETS_OF_SPIKES = 1 << SPIKES;
    private static final int TEXT_LIMIT = 48, ACTS_LIMIT = 14, SWORN_LIMIT = 6;
    private static final int LAST_LETTER = 255, NIGHTS_LIMIT = 20, DOINGS_LIMIT = 4, YEARS_LIMIT = 30;
    private static final int TENTHS = 10, CHOICES = 3;

    private final Text text = new Text();
    private final Reader reader = new Reader();
    private final Spikes spikes = new Spikes();
    private final Spikes trial = new Spikes();
    private final Things things = new Things();
    private final Acts acts = new Acts();
    private final Oaths oaths = new Oaths();
    private final Slots slots = new Slots();
    private long theSeed;

    public SpikeTown() {
    }

    // ---- the town

    public int write(int letter) {
        if (letter < 0 || letter > LAST_LETTER) {
            return BAD;
        }
        return text.append(letter);
    }

    public int wipe() {
        return text.clear();
    }

    public int fault() {
        return reader.faultOf(text);
    }

    public int town() {
        if (reader.faultOf(text) != NONE) {
            return LATE;
        }
        spikes.copyFrom(reader.spikes);
        things.copyFrom(reader.things);
        acts.forgetAll();
        slots.forgetAll();
        return 10 * Integer.bitCount(spikes.onSpikes()) + things.count;
    }

    public int about(int what) {
        switch (what) {
            case 0: return things.count;
            case 1: return spikes.night;
            case 2: return spikes.onSpikes();
            case 3: return spikes.inHand();
            case 4: return spikes.gone();
            case 5: return things.soBy(spikes.onSpikes());
            case 6: return acts.count;
            case 7: return oaths.count;
            case 8: return text.count;
            default: return BAD;
        }
    }

    public int slip(int slip, int what) {
        if (!isSlip(slip)) {
            return UNKNOWN;
        }
        switch (what) {
            case 0: return spikes.spikeOf(slip);
            case 1: return spikes.heightOf(slip);
            case 2: return spikes.stateOf(slip);
            case 3: return hangsOf(slip);
            default: return BAD;
        }
    }

    public int spike(int spike, int what) {
        if (!isSpike(spike)) {
            return UNKNOWN;
        }
        switch (what) {
            case 0: return spikes.countOn(spike);
            case 1: return spikes.slipAt(spike, 0);
            case 2: return spikes.topOf(spike);
            default: return BAD;
        }
    }

    public int thing(int thing, int what) {
        if (!things.has(thing)) {
            return UNKNOWN;
        }
        switch (what) {
            case 0: return things.kindOf(thing);
            case 1:
            case 2:
            case 3: return things.groundOf(thing, what - 1);
            case 4: return things.isSo(thing, spikes.onSpikes()) ? 1 : 0;
            default: return BAD;
        }
    }

    // ---- acts

    public int put(int slip, int spike) {
        return act(spikes.packed(), spikes.putOn(slip, spike));
    }

    public int take(int spike) {
        return act(spikes.packed(), spikes.takeTop(spike));
    }

    public int tear(int slip) {
        return act(spikes.packed(), spikes.tearUp(slip));
    }

    public int forge(int slip) {
        return act(spikes.packed(), spikes.forgeAnew(slip));
    }

    public int night() {
        return act(spikes.packed(), spikes.letMiceIn());
    }

    public int audit(int spike) {
        return act(spikes.packed(), spikes.turnOver(spike));
    }

    public int undo() {
        if (acts.count == 0) {
            return LATE;
        }
        spikes.unpack(acts.removeLast());
        return acts.count;
    }

    // ---- nights to come, slips

    public int later(int n) {
        if (n < 0 || n > NIGHTS_LIMIT) {
            return BAD;
        }
        trial.copyFrom(spikes);
        for (int i = 0; i < n; i++) {
            trial.letMiceIn();
        }
        return things.soBy(trial.onSpikes());
    }

    public int lasts(int thing) {
        if (!things.has(thing)) {
            return UNKNOWN;
        }
        if (!things.isSo(thing, spikes.onSpikes())) {
            return LATE;
        }
        trial.copyFrom(spikes);
        for (int nights = 1; nights <= NIGHTS_LIMIT; nights++) {
            trial.letMiceIn();
            if (!things.isSo(thing, trial.onSpikes())) {
                return nights;
            }
        }
        return NONE;
    }

    public int wants(int thing) {
        if (!things.has(thing)) {
            return UNKNOWN;
        }
        return fewestToTurn(thing, SETS_OF_SLIPS - 1 - spikes.onSpikes(), true);
    }

    public int breaks(int thing) {
        if (!things.has(thing)) {
            return UNKNOWN;
        }
        return fewestToTurn(thing, spikes.onSpikes(), false);
    }

    public int judge(int n, long row) {
        if (n < 1 || n > DOINGS_LIMIT) {
            return BAD;
        }
        if (row < 0 || withoutLastDoings(row, n) != 0) {
            return BAD;
        }
        trial.copyFrom(spikes);
        for (int place = 0; place < n; place++) {
            int doing = (int) (withoutLastDoings(row, n - 1 - place) % 1000);
            if (!tryDoing(doing / 100, doing / 10 % 10, doing % 10)) {
                return place;
            }
        }
        return NONE;
    }

    public int share(int slip, boolean upper) {
        if (!isSlip(slip)) {
            return UNKNOWN;
        }
        int there = spikes.onSpikes();
        if ((there >> slip & 1) == 0) {
            return fraction(0, 1, upper);
        }
        return fraction(gainInAllOrders(slip, there), factorial(Integer.bitCount(there)), upper);
    }

    // ---- sworn

    public int swear(int thing, int so) {
        if (!things.has(thing)) {
            return UNKNOWN;
        }
        if (so != 0 && so != 1) {
            return BAD;
        }
        return oaths.append(thing, so);
    }

    public int unswear() {
        return oaths.clear();
    }

    public int may(int what) {
        if (what != 0 && what != 1) {
            return BAD;
        }
        int many = 0;
        int first = NONE;
        for (int slips = 0; slips < SETS_OF_SLIPS; slips++) {
            if (oaths.allKeptBy(things, slips)) {
                many++;
                first = first == NONE ? slips : first;
            }
        }
        return what == 0 ? many : first;
    }

    // ---- rests, chances

    public int rests(int one, int other, int what) {
        if (!things.has(one) || !things.has(other)) {
            return UNKNOWN;
        }
        if (one == other || what != 0 && what != 1) {
            return BAD;
        }
        int many = 0;
        int first = NONE;
        for (int mine = 0; mine < CHOICES; mine++) {
            for (int theirs = 0; theirs < CHOICES; theirs++) {
                if (isBest(one, other, mine, theirs) && isBest(other, one, theirs, mine)) {
                    many++;
                    first = first == NONE ? 10 * mine + theirs : first;
                }
            }
        }
        return what == 0 ? many : first;
    }

    public int fires(int thing, int x, boolean upper) {
        if (!things.has(thing)) {
            return UNKNOWN;
        }
        if (x < 0 || x > TENTHS) {
            return BAD;
        }
        int above = 0;
        int below = 0;
        for (int burnt = 0; burnt < SETS_OF_SPIKES; burnt++) {
            int weight = weightOfFire(burnt, x);
            below += weight;
            if (things.isSo(thing, leftByFire(burnt))) {
                above += weight;
            }
        }
        return fraction(above, below, upper);
    }

    public long seed(long v) {
        long old = theSeed;
        theSeed = v;
        return old;
    }

    public int years(int m) {
        if (m < 1 || m > YEARS_LIMIT) {
            return BAD;
        }
        trial.copyFrom(spikes);
        int together = 0;
        for (int year = 0; year < m; year++) {
            theSeed = theSeed * 6364136223846793005L + 1442695040888963407L;
            passYear((int) ((theSeed >>> 33) % 36));
            together += Integer.bitCount(things.soBy(trial.onSpikes()));
        }
        return together;
    }

    // ---- slots

    public int keep(int slot) {
        if (!isSlot(slot)) {
            return UNKNOWN;
        }
        slots.store(slot, spikes.packed());
        return spikes.night;
    }

    public int again(int slot) {
        if (!isSlot(slot)) {
            return UNKNOWN;
        }
        if (!slots.isFull(slot)) {
            return LATE;
        }
        spikes.unpack(slots.stored(slot));
        acts.forgetAll();
        return spikes.night;
    }

    // ---- what the calls share

    private static boolean isSlip(int slip) {
        return slip >= 0 && slip < SLIPS;
    }

    private static boolean isSpike(int spike) {
        return spike >= 0 && spike < SPIKES;
    }

    private static boolean isSlot(int slot) {
        return slot >= 0 && slot < SLOTS;
    }

    /** NONE is no refusal: an empty spike's audit answers it and is an act all the same. */
    private static boolean isRefusal(int answer) {
        return answer == UNKNOWN || answer == LATE;
    }

    /** Remembers what was ahead of an act, unless the act was refused and so was none. */
    private int act(long before, int answer) {
        if (!isRefusal(answer)) {
            acts.append(before);
        }
        return answer;
    }

    private int hangsOf(int slip) {
        int there = spikes.onSpikes();
        int bit = 1 << slip;
        return things.soBy(there | bit) ^ things.soBy(there & ~bit);
    }

    /** The fewest of some slips, the least of like ones, by whose moving on or off the spikes a thing is as wished. */
    private int fewestToTurn(int thing, int movable, boolean wished) {
        int there = spikes.onSpikes();
        int best = NONE;
        int fewest = SLIPS + 1;
        for (int moved = 0; moved < SETS_OF_SLIPS; moved++) {
            int many = Integer.bitCount(moved);
            if ((moved & ~movable) == 0 && many < fewest && things.isSo(thing, there ^ moved) == wished) {
                best = moved;
                fewest = many;
            }
        }
        return best;
    }

    /** A row of doings without the last ones, three figures each. */
    private static long withoutLastDoings(long row, int doings) {
        long left = row;
        for (int i = 0; i < doings; i++) {
            left /= 1000;
        }
        return left;
    }

    /** Does one told doing in the trial; false if it can not be or is not so. */
    private boolean tryDoing(int what, int middle, int last) {
        if (what == 1) {
            return !isRefusal(trial.putOn(middle, last));
        }
        if (middle != 0) {
            return false;
        }
        switch (what) {
            case 0:
                if (last != 0) {
                    return false;
                }
                trial.letMiceIn();
                return true;
            case 2: return !isRefusal(trial.takeTop(last));
            case 3: return !isRefusal(trial.tearUp(last));
            case 4: return !isRefusal(trial.forgeAnew(last));
            case 5: return !isRefusal(trial.turnOver(last));
            case 6: return things.has(last) && things.isSo(last, trial.onSpikes());
            default: return false;
        }
    }

    /** What a slip's coming adds, summed over all orders in which the slips that are there may come. */
    private int gainInAllOrders(int slip, int there) {
        int bit = 1 << slip;
        int others = there & ~bit;
        int many = Integer.bitCount(others);
        int sum = 0;
        for (int ahead = 0; ahead < SETS_OF_SLIPS; ahead++) {
            if ((ahead & ~others) == 0) {
                int come = Integer.bitCount(ahead);
                int more = Integer.bitCount(things.soBy(ahead | bit)) - Integer.bitCount(things.soBy(ahead));
                sum += more * factorial(come) * factorial(many - come);
            }
        }
        return sum;
    }

    private static int factorial(int n) {
        int product = 1;
        for (int i = 2; i <= n; i++) {
            product *= i;
        }
        return product;
    }

    /** One side of a fraction in least terms; what is below is more than 0. */
    private static int fraction(int above, int below, boolean upper) {
        int side = upper ? above : below;
        int divisor = commonDivisor(Math.abs(above), below);
        return divisor == 0 ? side : side / divisor;
    }

    private static int commonDivisor(int one, int other) {
        int larger = one;
        int smaller = other;
        for (int i = 0; i < 100 && smaller != 0; i++) {
            int left = larger % smaller;
            larger = smaller;
            smaller = left;
        }
        return larger;
    }

    /** Whether somebody has no more by another choice, if the other one stays with theirs. */
    private boolean isBest(int own, int other, int choice, int otherChoice) {
        int has = worth(own, other, choice, otherChoice);
        for (int instead = 0; instead < CHOICES; instead++) {
            if (worth(own, other, instead, otherChoice) > has) {
                return false;
            }
        }
        return true;
    }

    private int worth(int own, int other, int choice, int otherChoice) {
        int there = spikes.onSpikes();
        int so = things.soBy(there & ~slipChosen(choice, there) & ~slipChosen(otherChoice, there));
        int worth = 3 * (so >> own & 1);
        if (choice != 0) {
            worth--;
        }
        if ((so >> other & 1) == 0) {
            worth++;
        }
        return worth;
    }

    /** The slip that a choice takes away, as a bit; 0 where there is no such one. */
    private static int slipChosen(int choice, int there) {
        if (choice == 0) {
            return 0;
        }
        int from = choice == 1 ? there : there & (there - 1);
        return from & -from;
    }

    private static int weightOfFire(int burnt, int x) {
        int weight = 1;
        for (int spike = 0; spike < SPIKES; spike++) {
            weight *= (burnt >> spike & 1) == 1 ? x : TENTHS - x;
        }
        return weight;
    }

    private int leftByFire(int burnt) {
        int left = spikes.onSpikes();
        for (int spike = 0; spike < SPIKES; spike++) {
            if ((burnt >> spike & 1) == 1) {
                left &= ~spikes.slipsOn(spike);
            }
        }
        return left;
    }

    /** What the seed draws for one year, 0 to 35, done in the trial; what can not be is not done. */
    private void passYear(int drawn) {
        if (drawn < 24) {
            trial.putOn(drawn / 3, drawn % 3);
        } else if (drawn < 27) {
            trial.takeTop(drawn - 24);
        } else if (drawn < 30) {
            trial.turnOver(drawn - 27);
        } else {
            trial.letMiceIn();
        }
    }

    /** THE TEXT. */
    private static final class Text {
        private final int[] letters = new int[TEXT_LIMIT];
        private int count;

        int append(int letter) {
            if (count >= letters.length) {
                return FULL;
            }
            letters[count] = letter;
            count++;
            return count;
        }

        int clear() {
            int old = count;
            count = 0;
            return old;
        }

        int letterAt(int place) {
            return place >= 0 && place < count ? letters[place] : NONE;
        }
    }

    /** Reads THE TEXT into a town of its own, so that a faulty text changes nothing of the real one. */
    private static final class Reader {
        private static final int START = 0, PART = 1, SPIKE = 2, SLIP = 3, KIND = 4;
        private static final int GROUND_A = 5, GROUND_B = 6, GROUND_C = 7;

        private final Spikes spikes = new Spikes();
        private final Things things = new Things();
        private int awaited;
        private int toldSpike;
        private int toldKind;
        private int groundA;
        private int groundB;

        int faultOf(Text text) {
            spikes.allInHand();
            things.clear();
            awaited = START;
            for (int place = 0; place < text.count; place++) {
                if (!reads(text.letterAt(place))) {
                    return place;
                }
            }
            return awaited == PART ? NONE : text.count;
        }

        /** Takes one byte more; false if no town has it here. */
        private boolean reads(int letter) {
            switch (awaited) {
                case START: return readsStart(letter);
                case PART: return readsPart(letter);
                case SPIKE: return readsSpike(letter);
                case SLIP: return readsSlip(letter);
                case KIND: return readsKind(letter);
                default: return readsGround(letter);
            }
        }

        private boolean readsStart(int letter) {
            awaited = PART;
            return letter == 'R';
        }

        /** A part that could not be ended, as all slips or things are told, is faulty by its first byte. */
        private boolean readsPart(int letter) {
            if (letter == 'S') {
                awaited = SPIKE;
                return spikes.inHand() != 0;
            }
            awaited = KIND;
            return letter == 'T' && things.count < THINGS;
        }

        private boolean readsSpike(int letter) {
            toldSpike = letter - '0';
            awaited = SLIP;
            return isSpike(toldSpike);
        }

        /** A slip that is told already is on a spike, and so can not be put. */
        private boolean readsSlip(int letter) {
            awaited = PART;
            return !isRefusal(spikes.putOn(letter - '0', toldSpike));
        }

        private boolean readsKind(int letter) {
            toldKind = letter - '0';
            awaited = GROUND_A;
            return toldKind >= Things.PLAIN && toldKind <= Things.LIFE;
        }

        private boolean readsGround(int letter) {
            int ground = groundTold(letter);
            if (awaited == GROUND_A) {
                groundA = ground;
                awaited = GROUND_B;
            } else if (awaited == GROUND_B) {
                groundB = ground;
                awaited = GROUND_C;
            } else if (ground != NONE) {
                things.append(toldKind, groundA, groundB, ground);
                awaited = PART;
            }
            return ground != NONE;
        }

        private int groundTold(int letter) {
            if (isSlip(letter - '0')) {
                return letter - '0';
            }
            if (things.has(letter - 'A')) {
                return Things.FIRST_THING + letter - 'A';
            }
            return NONE;
        }
    }

    /** Where all slips are, and THE NIGHT. */
    private static final class Spikes {
        private static final int HAND = SPIKES * SLIPS, GONE = HAND + 1;
        private static final int SPOT_BITS = 5, MICE_NEED = 3;

        /** Of each slip SLIPS times its spike, and its height; or HAND, or GONE. */
        private final int[] spots = new int[SLIPS];
        private int night;

        Spikes() {
            allInHand();
        }

        void allInHand() {
            for (int slip = 0; slip < SLIPS; slip++) {
                spots[slip] = HAND;
            }
            night = 0;
        }

        void copyFrom(Spikes other) {
            for (int slip = 0; slip < SLIPS; slip++) {
                spots[slip] = other.spots[slip];
            }
            night = other.night;
        }

        /** All of it in one number, so that acts and slots remember it without an object. */
        long packed() {
            long bits = night;
            for (int slip = 0; slip < SLIPS; slip++) {
                bits = bits << SPOT_BITS | spots[slip];
            }
            return bits;
        }

        void unpack(long packed) {
            long bits = packed;
            for (int slip = SLIPS - 1; slip >= 0; slip--) {
                spots[slip] = (int) bits & (1 << SPOT_BITS) - 1;
                bits >>= SPOT_BITS;
            }
            night = (int) bits;
        }

        int onSpikes() {
            return slipsFrom(0, HAND);
        }

        int inHand() {
            return slipsFrom(HAND, 1);
        }

        int gone() {
            return slipsFrom(GONE, 1);
        }

        int slipsOn(int spike) {
            return slipsFrom(spike * SLIPS, SLIPS);
        }

        /** The slips, as bits, that are in so many spots from a first one on. */
        private int slipsFrom(int first, int many) {
            int slips = 0;
            for (int slip = 0; slip < SLIPS; slip++) {
                if (spots[slip] >= first && spots[slip] < first + many) {
                    slips |= 1 << slip;
                }
            }
            return slips;
        }

        int countOn(int spike) {
            return Integer.bitCount(slipsFrom(spike * SLIPS, SLIPS));
        }

        boolean isInHand(int slip) {
            return isSlip(slip) && spots[slip] == HAND;
        }

        int spikeOf(int slip) {
            return isSlip(slip) && spots[slip] < HAND ? spots[slip] / SLIPS : NONE;
        }

        int heightOf(int slip) {
            return isSlip(slip) && spots[slip] < HAND ? spots[slip] % SLIPS : NONE;
        }

        int stateOf(int slip) {
            if (spikeOf(slip) != NONE) {
                return 0;
            }
            return isInHand(slip) ? 1 : 2;
        }

        int topOf(int spike) {
            return slipAt(spike, countOn(spike) - 1);
        }

        int slipAt(int spike, int height) {
            for (int slip = 0; slip < SLIPS; slip++) {
                if (spikeOf(slip) == spike && heightOf(slip) == height) {
                    return slip;
                }
            }
            return NONE;
        }

        int putOn(int slip, int spike) {
            if (!isSlip(slip) || !isSpike(spike)) {
                return UNKNOWN;
            }
            if (spots[slip] != HAND) {
                return LATE;
            }
            int height = countOn(spike);
            spots[slip] = spike * SLIPS + height;
            return height;
        }

        int takeTop(int spike) {
            if (!isSpike(spike)) {
                return UNKNOWN;
            }
            int slip = topOf(spike);
            if (!isSlip(slip)) {
                return LATE;
            }
            spots[slip] = HAND;
            return slip;
        }

        int tearUp(int slip) {
            if (!isSlip(slip)) {
                return UNKNOWN;
            }
            if (spots[slip] != HAND) {
                return LATE;
            }
            spots[slip] = GONE;
            return Integer.bitCount(gone());
        }

        int forgeAnew(int slip) {
            if (!isSlip(slip)) {
                return UNKNOWN;
            }
            if (spots[slip] != GONE) {
                return LATE;
            }
            spots[slip] = HAND;
            return Integer.bitCount(gone());
        }

        int letMiceIn() {
            int eaten = 0;
            for (int spike = 0; spike < SPIKES; spike++) {
                if (countOn(spike) >= MICE_NEED) {
                    loseLowest(spike);
                    eaten++;
                }
            }
            night++;
            return eaten;
        }

        private void loseLowest(int spike) {
            for (int slip = 0; slip < SLIPS; slip++) {
                if (spikeOf(slip) == spike) {
                    spots[slip] = heightOf(slip) == 0 ? GONE : spots[slip] - 1;
                }
            }
        }

        int turnOver(int spike) {
            if (!isSpike(spike)) {
                return UNKNOWN;
            }
            int highest = countOn(spike) - 1;
            for (int slip = 0; slip < SLIPS; slip++) {
                if (spikeOf(slip) == spike) {
                    spots[slip] = spike * SLIPS + highest - heightOf(slip);
                }
            }
            return topOf(spike);
        }
    }

    /** The things, and what makes them so. */
    private static final class Things {
        private static final int PLAIN = 0, DOUBLE = 1, REGRET = 2, LIFE = 3;
        private static final int GROUNDS = 3, FIRST_THING = 10;

        private final int[] kinds = new int[THINGS];
        /** Three of each thing: a slip, or FIRST_THING and the number of a thing. */
        private final int[] grounds = new int[THINGS * GROUNDS];
        private int count;

        void clear() {
            count = 0;
        }

        void copyFrom(Things other) {
            for (int thing = 0; thing < THINGS; thing++) {
                kinds[thing] = other.kinds[thing];
            }
            for (int i = 0; i < THINGS * GROUNDS; i++) {
                grounds[i] = other.grounds[i];
            }
            count = other.count;
        }

        void append(int kind, int a, int b, int c) {
            if (count < THINGS) {
                kinds[count] = kind;
                grounds[count * GROUNDS] = a;
                grounds[count * GROUNDS + 1] = b;
                grounds[count * GROUNDS + 2] = c;
                count++;
            }
        }

        boolean has(int thing) {
            return thing >= 0 && thing < count;
        }

        int kindOf(int thing) {
            return has(thing) ? kinds[thing] : NONE;
        }

        int groundOf(int thing, int which) {
            return has(thing) && which >= 0 && which < GROUNDS ? grounds[thing * GROUNDS + which] : NONE;
        }

        boolean isSo(int thing, int slips) {
            return has(thing) && (soBy(slips) >> thing & 1) == 1;
        }

        /** The things that are so, as bits, if just these slips are on spikes. */
        int soBy(int slips) {
            int so = 0;
            for (int thing = 0; thing < count; thing++) {
                // a thing's grounds are told ahead of it, so one pass in their order is enough
                int held = slips | so << FIRST_THING;
                boolean a = (held >> groundOf(thing, 0) & 1) == 1;
                boolean b = (held >> groundOf(thing, 1) & 1) == 1;
                boolean c = (held >> groundOf(thing, 2) & 1) == 1;
                if (isSoByGrounds(kindOf(thing), a, b, c)) {
                    so |= 1 << thing;
                }
            }
            return so;
        }

        private static boolean isSoByGrounds(int kind, boolean a, boolean b, boolean c) {
            switch (kind) {
                case PLAIN: return a && b && c;
                case DOUBLE: return (a || b) && c;
                case REGRET: return !a && (b || c);
                case LIFE: return a && b || a && c || b && c;
                default: return false;
            }
        }
    }

    /** How the slips were ahead of each act, the last one's behind. */
    private static final class Acts {
        private final long[] before = new long[ACTS_LIMIT];
        private int count;

        void append(long packed) {
            if (count >= before.length) {
                removeFirst();
            }
            before[count] = packed;
            count++;
        }

        private void removeFirst() {
            for (int i = 1; i < before.length; i++) {
                before[i - 1] = before[i];
            }
            count = before.length - 1;
        }

        long removeLast() {
            if (count == 0) {
                return 0;
            }
            count--;
            return before[count];
        }

        void forgetAll() {
            count = 0;
        }
    }

    /** What is sworn. */
    private static final class Oaths {
        private final int[] sworn = new int[SWORN_LIMIT];
        private final int[] answers = new int[SWORN_LIMIT];
        private int count;

        int append(int thing, int so) {
            if (count >= sworn.length) {
                return FULL;
            }
            sworn[count] = thing;
            answers[count] = so;
            count++;
            return count;
        }

        int clear() {
            int old = count;
            count = 0;
            return old;
        }

        boolean allKeptBy(Things things, int slips) {
            int so = things.soBy(slips);
            for (int i = 0; i < count; i++) {
                if (things.has(sworn[i]) && (so >> sworn[i] & 1) != answers[i]) {
                    return false;
                }
            }
            return true;
        }
    }

    /** Where slips were kept. */
    private static final class Slots {
        private final long[] kept = new long[SLOTS];
        private final boolean[] full = new boolean[SLOTS];

        void store(int slot, long packed) {
            if (isSlot(slot)) {
                kept[slot] = packed;
                full[slot] = true;
            }
        }

        boolean isFull(int slot) {
            return isSlot(slot) && full[slot];
        }

        long stored(int slot) {
            return isSlot(slot) ? kept[slot] : 0;
        }

        void forgetAll() {
            for (int slot = 0; slot < SLOTS; slot++) {
                full[slot] = false;
            }
        }
    }
}
