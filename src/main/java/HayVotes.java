/**
 * Haystack parliament: stacks of hay are parties, cows elect by eating, by a law that is a text.
 * No call makes an object: all rows are made with the meadow and used again.
 */
public final class HayVotes {
    public static final int NONE = -1;

    private static final int SIDE = 10;
    private static final int COLOURS = 5;
    private static final int MOST_STACKS = 12;
    private static final int MOST_COWS = 16;
    private static final int MOST_HAY = 999;
    private static final int MOST_CLOVER = 99;
    private static final int MOST_DAMP = 99;
    private static final int MOST_HUNGER = 9;
    private static final int MOST_TASTE = 9;
    private static final int BULL_VOTES = 9;
    private static final int BURNING_HEAT = 500;
    private static final int MOST_DAYS = 20;
    private static final int LAST_SALT_DAY = 999;
    private static final int MOST_SEED = 65535;
    private static final int NOBODY = -2;
    private static final int NO_TASTE = -1000;

    private final Meadow now;
    private final Meadow kept;
    private final Meadow trial;
    private final Tape tape;
    private final LawReader reader;
    private final Campaign search;
    private final Words seen;
    private final Districts districts;
    private final Odds odds;
    private Law law;
    private Law draft;
    private boolean isKept;

    public HayVotes() {
        now = new Meadow();
        kept = new Meadow();
        trial = new Meadow();
        tape = new Tape();
        reader = new LawReader(tape);
        search = new Campaign(trial);
        seen = new Words(trial);
        districts = new Districts();
        odds = new Odds();
        law = new Law();
        draft = new Law();
        isKept = false;
    }

    public int stack(int x, int y, int colour, int hay, int clover, int damp) {
        boolean told = isSquare(x, y) && isColour(colour) && isWithin(hay, 0, MOST_HAY)
                && isWithin(clover, 0, MOST_CLOVER) && isWithin(damp, 0, MOST_DAMP);
        if (!told || now.stackCount >= MOST_STACKS) {
            return NONE;
        }
        if (now.hasStackOn(x, y)) {
            return -2;
        }
        int number = now.stackCount;
        now.stacks[number].raise(x, y, colour, hay, clover, damp);
        now.stackCount++;
        return number;
    }

    public int cow(int x, int y, boolean bull, int hunger) {
        if (!isSquare(x, y) || !isWithin(hunger, 1, MOST_HUNGER) || now.cowCount >= MOST_COWS) {
            return NONE;
        }
        int number = now.cowCount;
        now.cows[number].enter(x, y, bull ? BULL_VOTES : 1, hunger);
        now.cowCount++;
        return number;
    }

    public boolean taste(int cow, int colour, int n) {
        if (!hasCow(cow) || !isColour(colour) || !isWithin(n, -MOST_TASTE, MOST_TASTE)) {
            return false;
        }
        now.cows[cow].tastes[colour] = n;
        return true;
    }

    public boolean salt(int stack, int day) {
        if (stack == NONE) {
            now.putSalt(NONE, NONE);
            return true;
        }
        if (!isStanding(stack) || !isWithin(day, 0, LAST_SALT_DAY)) {
            return false;
        }
        now.putSalt(stack, day);
        return true;
    }

    public int feed(int a, int b, int c, int d, int e) {
        if (tape.size + Tape.MEAL > Tape.MOST_BYTES) {
            return NONE;
        }
        tape.putInt(a);
        tape.putInt(b);
        tape.putInt(c);
        tape.putInt(d);
        tape.putInt(e);
        return tape.size;
    }

    public int law(int n) {
        if (!isWithin(n, 1, Law.MOST_TEXT) || n > tape.size) {
            return NONE;
        }
        int answer = reader.readInto(draft, n);
        tape.empty();
        if (answer > 0) {
            Law before = law;
            law = draft;
            draft = before;
        }
        return answer;
    }

    public int would(int cow, int stack) {
        if (!hasCow(cow) || !isStanding(stack)) {
            return NONE;
        }
        return law.wouldEat(now, cow, stack);
    }

    public int chooses(int cow) {
        if (!hasCow(cow)) {
            return NONE;
        }
        now.forgetAmounts();
        return now.bestStack(law, cow);
    }

    public int days(int n) {
        if (!isWithin(n, 1, MOST_DAYS)) {
            return NONE;
        }
        int hay = 0;
        now.forgetAmounts();
        for (int day = 0; day < n; day++) {
            hay += now.passDay(law);
        }
        return hay;
    }

    public int run(int n, int what) {
        boolean asksStack = what >= 10 && hasStack(what - 10);
        if (!isWithin(n, 1, MOST_DAYS) || !isWithin(what, 0, 6) && !asksStack) {
            return NONE;
        }
        trial.forgetAmounts();
        trial.startRun(now);
        for (int day = 0; day < n; day++) {
            trial.passDay(law);
        }
        if (asksStack) {
            return trial.stacks[what - 10].hay;
        }
        if (what == 6) {
            return now.standingCount() - trial.standingCount();
        }
        return what == 5 ? trial.winner() : trial.counts[what];
    }

    public int stackIs(int s, int what) {
        if (!hasStack(s)) {
            return NONE;
        }
        Stack stack = now.stacks[s];
        switch (what) {
            case 0: return SIDE * stack.y + stack.x;
            case 1: return stack.colour;
            case 2: return stack.hay;
            case 3: return stack.clover;
            case 4: return stack.damp;
            case 5: return stack.heat;
            case 6: return stack.stands ? 1 : 0;
            default: return NONE;
        }
    }

    public int cowIs(int c, int what) {
        if (!hasCow(c)) {
            return NO_TASTE;
        }
        Cow cow = now.cows[c];
        switch (what) {
            case 0: return SIDE * cow.y + cow.x;
            case 1: return cow.votes;
            case 2: return cow.hunger;
            case 3: return cow.lastVote;
            default: return isWithin(what, 10, 9 + COLOURS) ? cow.tastes[what - 10] : NO_TASTE;
        }
    }

    public int eaten(int stack, int cow) {
        if (stack != NONE && !hasStack(stack) || cow != NONE && !hasCow(cow)) {
            return -2;
        }
        int firstStack = stack == NONE ? 0 : stack;
        int lastStack = stack == NONE ? now.stackCount - 1 : stack;
        int firstCow = cow == NONE ? 0 : cow;
        int lastCow = cow == NONE ? now.cowCount - 1 : cow;
        int hay = 0;
        for (int s = firstStack; s <= lastStack; s++) {
            for (int c = firstCow; c <= lastCow; c++) {
                hay += now.stacks[s].eatenBy[c];
            }
        }
        return hay;
    }

    public int votes(int colour) {
        return isColour(colour) ? now.counts[colour] : NONE;
    }

    public int campaign(int colour, int n, int what) {
        if (!isColour(colour) || !isWithin(n, 1, 6) || !isWithin(what, NONE, Campaign.MOST_PLACES)) {
            return -3;
        }
        search.choosePlaces(now, colour);
        boolean asksPlace = what != NONE && what != Campaign.MOST_PLACES;
        if (asksPlace && what >= search.placeCount) {
            return -3;
        }
        int pence = search.cheapest(now, law, colour, n);
        if (pence == NONE) {
            return -2;
        }
        if (asksPlace) {
            return search.row[what];
        }
        if (what == Campaign.MOST_PLACES) {
            search.spreadOn(now);
        }
        return pence;
    }

    public int power(int cow) {
        return hasCow(cow) ? (int) Swings.sum(now, cow, false) : NONE;
    }

    public long share(int cow, int what) {
        if (!hasCow(cow) || !isWithin(what, 0, 1)) {
            return -1;
        }
        long above = Swings.sum(now, cow, true);
        long below = Swings.factorial(now.cowCount);
        return lowestTerms(above, below, what);
    }

    public int seat(int district) {
        if (!isWithin(district, 0, 3)) {
            return NONE;
        }
        districts.tally(now, SIDE / 2, SIDE / 2);
        return districts.holder(district);
    }

    public int cut(int colour, int what) {
        if (!isColour(colour) || !isWithin(what, 0, 2)) {
            return NONE;
        }
        int most = -1;
        int bestX = 0;
        int bestY = 0;
        for (int x = 1; x < SIDE; x++) {
            for (int y = 1; y < SIDE; y++) {
                districts.tally(now, x, y);
                int seats = districts.seatsOf(colour);
                if (seats > most) {
                    most = seats;
                    bestX = x;
                    bestY = y;
                }
            }
        }
        if (what == 0) {
            return most;
        }
        return what == 1 ? bestX : bestY;
    }

    public int foreseen(int cow) {
        if (!hasCow(cow)) {
            return NONE;
        }
        int vote = NOBODY;
        int least = 0;
        for (int other = 0; other < now.cowCount; other++) {
            int otherVote = now.cows[other].lastVote;
            if (other == cow || otherVote == NOBODY) {
                continue;
            }
            int unlike = now.cows[cow].unlike(now.cows[other]);
            if (vote == NOBODY || unlike < least) {
                vote = otherVote;
                least = unlike;
            }
        }
        return vote;
    }

    public long burns(int stack, int n, int k, int what) {
        boolean told = isWithin(n, 1, Odds.MOST_DAYS) && isWithin(k, 1, Odds.MOST_RISE) && isWithin(what, 0, 1);
        if (!told || !isStanding(stack)) {
            return -1;
        }
        odds.throwDays(n, k);
        long above = odds.atLeast(BURNING_HEAT - now.stacks[stack].heat);
        return lowestTerms(above, odds.all, what);
    }

    public int salted(int n, int what) {
        if (!isWithin(n, 1, Words.MOST_WORDS) || !isWithin(what, 0, 2) || 3 * n > tape.size) {
            return -3;
        }
        boolean told = seen.readFrom(tape, n, now);
        tape.empty();
        if (!told) {
            return -2;
        }
        seen.findFits(now, law);
        if (what == 0) {
            return seen.fitCount;
        }
        return what == 1 ? seen.firstStack : seen.firstDay;
    }

    public int storm(int way) {
        return isWithin(way, 1, 9) ? now.joinWithin(way) : NONE;
    }

    public boolean seed(int x) {
        if (!isWithin(x, 0, MOST_SEED)) {
            return false;
        }
        now.chance = x;
        return true;
    }

    public int draw(int n) {
        if (!isWithin(n, 1, MOST_DAYS)) {
            return NONE;
        }
        int hay = 0;
        for (int day = 0; day < n; day++) {
            now.moveByChance();
            now.forgetAmounts();
            hay += now.passDay(law);
        }
        return hay;
    }

    public int keep() {
        kept.copyFrom(now);
        isKept = true;
        return now.standingCount();
    }

    public boolean undo() {
        if (isKept) {
            now.copyFrom(kept);
        }
        return isKept;
    }

    public int check(int stack, int n) {
        if (!hasStack(stack) || !isWithin(n, 0, MOST_COWS) || 4 * n > tape.size) {
            return -2;
        }
        int answer = NONE;
        for (int c = 0; c < n && answer == NONE; c++) {
            boolean right = c < now.cowCount && tape.intAt(4 * c) == now.stacks[stack].eatenBy[c];
            answer = right ? NONE : c;
        }
        tape.empty();
        return answer;
    }

    public int count(int what) {
        switch (what) {
            case 0: return now.day;
            case 1: return now.stackCount;
            case 2: return now.cowCount;
            case 3: return law.clauseCount;
            case 4: return tape.size;
            case 5: return now.chance;
            case 6: return now.standingCount();
            case 7: return now.saltStack;
            case 8: return now.saltDay;
            default: return NONE;
        }
    }

    private static boolean isWithin(int n, int least, int most) {
        return n >= least && n <= most;
    }

    private static boolean isSquare(int x, int y) {
        return isWithin(x, 0, SIDE - 1) && isWithin(y, 0, SIDE - 1);
    }

    private static boolean isColour(int colour) {
        return isWithin(colour, 0, COLOURS - 1);
    }

    /** What is above (what 0) or below the line, without a common divisor. */
    private static long lowestTerms(long above, long below, int what) {
        long divisor = below;
        long rest = above;
        for (int step = 0; step < 200 && rest != 0; step++) {
            long next = divisor % rest;
            divisor = rest;
            rest = next;
        }
        long part = what == 0 ? above : below;
        return divisor == 0 ? part : part / divisor;
    }

    private boolean hasStack(int number) {
        return isWithin(number, 0, now.stackCount - 1);
    }

    private boolean isStanding(int number) {
        return hasStack(number) && now.stacks[number].stands;
    }

    private boolean hasCow(int number) {
        return isWithin(number, 0, now.cowCount - 1);
    }

    /** One STACK, and what each COW has EATEN of it. */
    private static final class Stack {
        private int x;
        private int y;
        private int colour;
        private int hay;
        private int clover;
        private int damp;
        private int heat;
        private boolean stands;
        private final int[] eatenBy = new int[MOST_COWS];

        /** A number may have been another stack's before an undo: nothing of that one may stay. */
        void raise(int atX, int atY, int ofColour, int withHay, int withClover, int withDamp) {
            x = atX;
            y = atY;
            colour = ofColour;
            hay = withHay;
            clover = withClover;
            damp = withDamp;
            heat = 0;
            stands = true;
            for (int c = 0; c < MOST_COWS; c++) {
                eatenBy[c] = 0;
            }
        }

        void copyFrom(Stack other) {
            x = other.x;
            y = other.y;
            colour = other.colour;
            hay = other.hay;
            clover = other.clover;
            damp = other.damp;
            heat = other.heat;
            stands = other.stands;
            for (int c = 0; c < MOST_COWS; c++) {
                eatenBy[c] = other.eatenBy[c];
            }
        }

        void addClover(int more) {
            clover = Math.min(MOST_CLOVER, clover + more);
        }

        void vanish() {
            stands = false;
            hay = 0;
        }

        boolean canJoin(Stack other, int way) {
            return stands && other.stands && colour == other.colour
                    && Math.abs(x - other.x) + Math.abs(y - other.y) <= way;
        }

        void takeIn(Stack other) {
            hay += other.hay;
            addClover(other.clover);
            damp = Math.max(damp, other.damp);
            heat = Math.max(heat, other.heat);
            other.vanish();
        }
    }

    /** One COW. */
    private static final class Cow {
        private int x;
        private int y;
        private int votes;
        private int hunger;
        private int lastVote;
        private final int[] tastes = new int[COLOURS];

        /** A number may have been another cow's before an undo: nothing of that one may stay. */
        void enter(int atX, int atY, int withVotes, int withHunger) {
            x = atX;
            y = atY;
            votes = withVotes;
            hunger = withHunger;
            lastVote = NOBODY;
            for (int k = 0; k < COLOURS; k++) {
                tastes[k] = 0;
            }
        }

        void copyFrom(Cow other) {
            x = other.x;
            y = other.y;
            votes = other.votes;
            hunger = other.hunger;
            lastVote = other.lastVote;
            for (int k = 0; k < COLOURS; k++) {
                tastes[k] = other.tastes[k];
            }
        }

        int unlike(Cow other) {
            int sum = 0;
            for (int k = 0; k < COLOURS; k++) {
                sum += Math.abs(tastes[k] - other.tastes[k]);
            }
            return sum;
        }

        void step(int direction) {
            if (direction == 0) {
                y = Math.min(SIDE - 1, y + 1);
            } else if (direction == 1) {
                x = Math.min(SIDE - 1, x + 1);
            } else if (direction == 2) {
                y = Math.max(0, y - 1);
            } else {
                x = Math.max(0, x - 1);
            }
        }
    }

    /** All that is KEPT and UNDONE; also the ground on which a RUN is tried. */
    private static final class Meadow {
        private final Stack[] stacks = new Stack[MOST_STACKS];
        private final Cow[] cows = new Cow[MOST_COWS];
        private final int[] counts = new int[COLOURS];
        /** At which stack each cow ate on the last day; WORDS are held against it. */
        private final int[] ateAt = new int[MOST_COWS];
        /** By cow and stack: the amount last found, and by what looks of the stack; NONE: forgotten. */
        private final int[] amounts = new int[MOST_COWS * MOST_STACKS];
        private final int[] amountLooks = new int[MOST_COWS * MOST_STACKS];
        private int stackCount;
        private int cowCount;
        private int saltStack = NONE;
        private int saltDay = NONE;
        private int day;
        private int chance = 1;

        Meadow() {
            for (int s = 0; s < MOST_STACKS; s++) {
                stacks[s] = new Stack();
            }
            for (int c = 0; c < MOST_COWS; c++) {
                cows[c] = new Cow();
            }
        }

        void copyFrom(Meadow other) {
            stackCount = other.stackCount;
            cowCount = other.cowCount;
            saltStack = other.saltStack;
            saltDay = other.saltDay;
            day = other.day;
            chance = other.chance;
            for (int s = 0; s < stackCount; s++) {
                stacks[s].copyFrom(other.stacks[s]);
            }
            for (int c = 0; c < cowCount; c++) {
                cows[c].copyFrom(other.cows[c]);
            }
            for (int k = 0; k < COLOURS; k++) {
                counts[k] = other.counts[k];
            }
        }

        /** As it is now, but with no votes: what is counted then are the votes in these days. */
        void startRun(Meadow from) {
            copyFrom(from);
            for (int k = 0; k < COLOURS; k++) {
                counts[k] = 0;
            }
        }

        void putSalt(int stack, int fromDay) {
            saltStack = stack;
            saltDay = fromDay;
        }

        boolean isSalted(int stack) {
            return stack == saltStack && day >= saltDay;
        }

        boolean hasStackOn(int x, int y) {
            for (int s = 0; s < stackCount; s++) {
                if (stacks[s].stands && stacks[s].x == x && stacks[s].y == y) {
                    return true;
                }
            }
            return false;
        }

        int standingCount() {
            int standing = 0;
            for (int s = 0; s < stackCount; s++) {
                standing += stacks[s].stands ? 1 : 0;
            }
            return standing;
        }

        /**
         * A campaign asks the same of cows and stacks again and again, so amounts are remembered.
         * They hold only while the law, the cows and the squares stay: each call that asks begins
         * with this, and so does each day ahead of which a cow goes.
         */
        void forgetAmounts() {
            for (int i = 0; i < MOST_COWS * MOST_STACKS; i++) {
                amounts[i] = NONE;
            }
        }

        int bestStack(Law law, int cow) {
            int best = NONE;
            int most = 0;
            for (int s = 0; s < stackCount; s++) {
                if (stacks[s].stands && stacks[s].hay > 0) {
                    int i = cow * MOST_STACKS + s;
                    int looks = law.looksOf(stacks[s], isSalted(s));
                    if (amounts[i] == NONE || amountLooks[i] != looks) {
                        amounts[i] = law.wouldEat(this, cow, s);
                        amountLooks[i] = looks;
                    }
                    if (amounts[i] > most) {
                        most = amounts[i];
                        best = s;
                    }
                }
            }
            return best;
        }

        /** One DAY: how much HAY is eaten. */
        int passDay(Law law) {
            int hay = 0;
            for (int c = 0; c < cowCount; c++) {
                int s = bestStack(law, c);
                ateAt[c] = s;
                if (s != NONE) {
                    hay += eatAt(s, c);
                }
            }
            for (int s = 0; s < stackCount; s++) {
                if (stacks[s].stands) {
                    heatUp(law, s);
                }
            }
            day++;
            return hay;
        }

        private int eatAt(int s, int c) {
            Stack stack = stacks[s];
            Cow cow = cows[c];
            int bite = Math.min(cow.hunger, stack.hay);
            stack.hay -= bite;
            stack.eatenBy[c] += bite;
            counts[stack.colour] += cow.votes;
            cow.lastVote = stack.colour;
            return bite;
        }

        private void heatUp(Law law, int s) {
            stacks[s].heat += law.hotterBy(this, s);
            if (stacks[s].heat >= BURNING_HEAT) {
                stacks[s].vanish();
            }
        }

        /** The COLOUR with more votes than each other one. */
        int winner() {
            int best = 0;
            boolean alone = true;
            for (int k = 1; k < COLOURS; k++) {
                if (counts[k] > counts[best]) {
                    best = k;
                    alone = true;
                } else if (counts[k] == counts[best]) {
                    alone = false;
                }
            }
            return alone ? best : NOBODY;
        }

        /**
         * A joined stack keeps its square, so the lowest one takes in all within its way, in order,
         * before the next one can be the lowest: two plain loops are the pairs one after another.
         */
        int joinWithin(int way) {
            int joins = 0;
            for (int low = 0; low < stackCount; low++) {
                for (int high = low + 1; high < stackCount; high++) {
                    if (stacks[low].canJoin(stacks[high], way)) {
                        stacks[low].takeIn(stacks[high]);
                        joins++;
                    }
                }
            }
            return joins;
        }

        void moveByChance() {
            chance = (25173 * chance + 13849) % 65536;
            int number = chance % MOST_COWS;
            if (number < cowCount) {
                cows[number].step(chance / 16 % 4);
            }
        }
    }

    /** The bytes that were fed and not yet used. */
    private static final class Tape {
        private static final int MOST_BYTES = 220;
        private static final int MEAL = 20;
        private final int[] bytes = new int[MOST_BYTES];
        private int size;

        void putInt(int n) {
            for (int shift = 24; shift >= 0 && size < MOST_BYTES; shift -= 8) {
                bytes[size] = n >>> shift & 255;
                size++;
            }
        }

        int byteAt(int place) {
            return isWithin(place, 0, size - 1) ? bytes[place] : NONE;
        }

        int intAt(int place) {
            int n = 0;
            for (int i = 0; i < 4; i++) {
                n = n << 8 | byteAt(place + i);
            }
            return n;
        }

        void empty() {
            size = 0;
        }
    }

    /**
     * A LAW as instructions: those of a clause's E, and behind them those of its C. Numbers are piled
     * up; a comparison takes two of them and sets the truth, on which the jumps of & and | depend.
     */
    private static final class Law {
        private static final int MOST_TEXT = 200;
        private static final int MOST_CLAUSES = 14;
        private static final int MOST_EATEN = 999;
        private static final int MOST_HOTTER = 99;
        /** In the order of the ten numbers below. */
        private static final String LETTERS = "hvwxkstdbu";
        private static final int HAY = 0;
        private static final int CLOVER = 1;
        private static final int DAMP = 2;
        private static final int HEAT = 3;
        private static final int COLOUR = 4;
        private static final int SALTED = 5;
        private static final int TASTE = 6;
        private static final int WAY = 7;
        private static final int VOTES = 8;
        private static final int HUNGER = 9;
        private static final int LETTER_COUNT = 10;
        private static final int PILE = 32;
        private static final int NUMBER = 1;
        private static final int LETTER = 2;
        private static final int PENDING = -1;

        private final int[] ops = new int[MOST_TEXT];
        private final int[] args = new int[MOST_TEXT];
        private final int[] kinds = new int[MOST_CLAUSES];
        private final int[] valueStarts = new int[MOST_CLAUSES];
        private final int[] conditionStarts = new int[MOST_CLAUSES];
        private final int[] conditionEnds = new int[MOST_CLAUSES];
        private final int[] letters = new int[LETTER_COUNT];
        /** All bits for each letter that an n or e asks for, else 0. */
        private final int[] masks = new int[LETTER_COUNT];
        private final int[] pile = new int[PILE];
        private int size;
        private int clauseCount;
        private boolean truth;
        private int value;

        void clear() {
            size = 0;
            clauseCount = 0;
            for (int i = 0; i < LETTER_COUNT; i++) {
                masks[i] = 0;
            }
        }

        void add(int op, int arg) {
            if (size < MOST_TEXT) {
                ops[size] = op;
                args[size] = arg;
                size++;
            }
        }

        /** Lets the jumps of this kind that don't know yet where to go, from a place on, come here. */
        void landJumps(int from, int op) {
            for (int i = from; i < size; i++) {
                if (ops[i] == op && args[i] == PENDING) {
                    args[i] = size;
                }
            }
        }

        void addClause(int kind, int valueStart, int conditionStart) {
            if (clauseCount < MOST_CLAUSES) {
                kinds[clauseCount] = kind;
                valueStarts[clauseCount] = valueStart;
                conditionStarts[clauseCount] = conditionStart;
                conditionEnds[clauseCount] = size;
                clauseCount++;
            }
            for (int i = valueStart; i < size && kind != 'g'; i++) {
                if (ops[i] == LETTER) {
                    masks[args[i]] = -1;
                }
            }
        }

        /** What days change of a stack, as far as n and e ask for it, in one number. */
        int looksOf(Stack stack, boolean salted) {
            int looks = (stack.hay & masks[HAY]) << 18 | (stack.heat & masks[HEAT]) << 8;
            return looks | (stack.clover & masks[CLOVER]) << 1 | (salted ? 1 : 0) & masks[SALTED];
        }

        /** How much a cow would eat: n is asked last, as it matters only where e is above 0. */
        int wouldEat(Meadow meadow, int cow, int stack) {
            lookAtStack(meadow, stack);
            lookAtCow(meadow.cows[cow], meadow.stacks[stack]);
            int amount = firstValue('e', MOST_EATEN);
            for (int i = 0; i < clauseCount && amount > 0; i++) {
                if (kinds[i] == 'n' && reckon(conditionStarts[i], conditionEnds[i]) && truth) {
                    amount = 0;
                }
            }
            return amount;
        }

        int hotterBy(Meadow meadow, int stack) {
            lookAtStack(meadow, stack);
            for (int i = TASTE; i < LETTER_COUNT; i++) {
                letters[i] = 0;
            }
            return firstValue('g', MOST_HOTTER);
        }

        private void lookAtStack(Meadow meadow, int number) {
            Stack stack = meadow.stacks[number];
            letters[HAY] = stack.hay;
            letters[CLOVER] = stack.clover;
            letters[DAMP] = stack.damp;
            letters[HEAT] = stack.heat;
            letters[COLOUR] = stack.colour;
            letters[SALTED] = meadow.isSalted(number) ? 1 : 0;
        }

        private void lookAtCow(Cow cow, Stack stack) {
            letters[TASTE] = cow.tastes[stack.colour];
            letters[WAY] = Math.abs(cow.x - stack.x) + Math.abs(cow.y - stack.y);
            letters[VOTES] = cow.votes;
            letters[HUNGER] = cow.hunger;
        }

        private int firstValue(int kind, int most) {
            for (int i = 0; i < clauseCount; i++) {
                if (kinds[i] == kind && reckon(conditionStarts[i], conditionEnds[i]) && truth) {
                    boolean known = reckon(valueStarts[i], conditionStarts[i]);
                    return known ? Math.max(0, Math.min(most, value)) : 0;
                }
            }
            return 0;
        }

        /** False if it is refused; else value is what an E is, truth whether a C holds. */
        private boolean reckon(int from, int to) {
            int top = 0;
            int lying = 0;
            int at = from;
            for (int step = 0; step < MOST_TEXT && at < to; step++) {
                int op = ops[at];
                int arg = args[at];
                at++;
                switch (op) {
                    case NUMBER:
                    case LETTER:
                        if (lying >= PILE) {
                            return false;
                        }
                        pile[lying] = top;
                        lying++;
                        top = op == NUMBER ? arg : letters[arg];
                        continue;
                    case '!': truth = !truth; continue;
                    case '&': at = truth ? at : arg; continue;
                    case '|': at = truth ? arg : at; continue;
                    default: break;
                }
                if (lying < 1 || top == 0 && (op == '/' || op == '%')) {
                    return false;
                }
                lying--;
                int left = pile[lying];
                switch (op) {
                    case '+': top = left + top; break;
                    case '-': top = left - top; break;
                    case '*': top = left * top; break;
                    case '/': top = left / top; break;
                    case '%': top = left % top; break;
                    case '<': truth = left < top; lying = 0; break;
                    case '>': truth = left > top; lying = 0; break;
                    default: truth = left == top; lying = 0; break;
                }
            }
            value = top;
            return true;
        }
    }

    /**
     * Reads the TEXT of a LAW from the tape. Each method reads what it is named after and answers
     * whether that was without FAULT; depth tells how many ( [ ! are open.
     */
    private static final class LawReader {
        private static final int MISPLACED = 1;
        private static final int SIXTH_DIGIT = 2;
        private static final int FIFTEENTH_CLAUSE = 4;
        private static final int TOO_DEEP = 5;
        private static final int MOST_DEPTH = 6;
        private static final int MOST_DIGITS = 5;

        private final Tape tape;
        private Law law;
        private int length;
        private int at;
        private int fault;

        LawReader(Tape from) {
            tape = from;
        }

        /** How many CLAUSES, or the FAULT as the face tells it. */
        int readInto(Law target, int textLength) {
            law = target;
            law.clear();
            length = textLength;
            at = 0;
            fault = 0;
            return clauses() ? law.clauseCount : -1000 * fault - at;
        }

        private boolean fail(int number) {
            fault = number;
            return false;
        }

        /** The sign here, or NONE at the end. */
        private int sign() {
            return at < length && at < Tape.MOST_BYTES ? tape.bytes[at] : NONE;
        }

        private boolean expect(int wanted) {
            if (sign() != wanted) {
                return fail(MISPLACED);
            }
            at++;
            return true;
        }

        private boolean clauses() {
            for (int n = 0; n <= Law.MOST_CLAUSES; n++) {
                int kind = sign();
                if (kind != 'n' && kind != 'e' && kind != 'g') {
                    return fail(MISPLACED);
                }
                if (n == Law.MOST_CLAUSES) {
                    return fail(FIFTEENTH_CLAUSE);
                }
                at++;
                if (!clause(kind)) {
                    return false;
                }
                if (at == length) {
                    return true;
                }
                if (!expect(';')) {
                    return false;
                }
            }
            return false;
        }

        private boolean clause(int kind) {
            int valueStart = law.size;
            if (kind != 'n' && !expression(0)) {
                return false;
            }
            int conditionStart = law.size;
            if (!expect('(') || !condition(1) || !expect(')')) {
                return false;
            }
            law.addClause(kind, valueStart, conditionStart);
            return true;
        }

        /** PARTS of PIECES: a piece that fails leaves its part, a part that holds leaves the whole. */
        private boolean condition(int depth) {
            int start = law.size;
            int partStart = start;
            for (int n = 0; n < Law.MOST_TEXT; n++) {
                if (!piece(depth)) {
                    return false;
                }
                int op = sign();
                if (op != '&') {
                    law.landJumps(partStart, '&');
                }
                if (op != '&' && op != '|') {
                    law.landJumps(start, '|');
                    return true;
                }
                at++;
                law.add(op, Law.PENDING);
                partStart = op == '|' ? law.size : partStart;
            }
            return false;
        }

        private boolean piece(int depth) {
            int first = sign();
            if (first == '!' || first == '(') {
                if (depth >= MOST_DEPTH) {
                    return fail(TOO_DEEP);
                }
                at++;
                if (first == '(') {
                    return condition(depth + 1) && expect(')');
                }
                boolean good = piece(depth + 1);
                law.add('!', 0);
                return good;
            }
            if (!expression(depth)) {
                return false;
            }
            int op = sign();
            if (op != '<' && op != '>' && op != '=') {
                return fail(MISPLACED);
            }
            at++;
            boolean good = expression(depth);
            law.add(op, 0);
            return good;
        }

        /** TERMS of FACTORS: a sign is written when what stands right of it has been. */
        private boolean expression(int depth) {
            int adding = 0;
            int multiplying = 0;
            for (int n = 0; n < Law.MOST_TEXT && factor(depth); n++) {
                if (multiplying != 0) {
                    law.add(multiplying, 0);
                }
                int op = sign();
                boolean goesOn = op == '*' || op == '/' || op == '%';
                multiplying = goesOn ? op : 0;
                if (!goesOn) {
                    if (adding != 0) {
                        law.add(adding, 0);
                    }
                    if (op != '+' && op != '-') {
                        return true;
                    }
                    adding = op;
                }
                at++;
            }
            return false;
        }

        private boolean factor(int depth) {
            int first = sign();
            if (first == '[') {
                if (depth >= MOST_DEPTH) {
                    return fail(TOO_DEEP);
                }
                at++;
                return expression(depth + 1) && expect(']');
            }
            if (isDigit(first)) {
                return number();
            }
            int letter = first == NONE ? NONE : Law.LETTERS.indexOf((char) first);
            if (letter < 0) {
                return fail(MISPLACED);
            }
            at++;
            law.add(Law.LETTER, letter);
            return true;
        }

        private boolean number() {
            int value = 0;
            for (int digits = 0; digits <= MOST_DIGITS && isDigit(sign()); digits++) {
                if (digits == MOST_DIGITS) {
                    return fail(SIXTH_DIGIT);
                }
                value = 10 * value + sign() - '0';
                at++;
            }
            law.add(Law.NUMBER, value);
            return true;
        }

        private static boolean isDigit(int sign) {
            return sign >= '0' && sign <= '9';
        }
    }

    /** The search for the cheapest CLOVER by which a COLOUR WINS. */
    private static final class Campaign {
        private static final int MOST_PLACES = 4;
        private static final int MOST_EACH = 3;
        private final int[] places = new int[MOST_PLACES];
        private final int[] row = new int[MOST_PLACES];
        private final Meadow trial;
        private int placeCount;

        Campaign(Meadow ground) {
            trial = ground;
        }

        void choosePlaces(Meadow now, int colour) {
            placeCount = 0;
            for (int s = 0; s < now.stackCount && placeCount < MOST_PLACES; s++) {
                if (now.stacks[s].stands && now.stacks[s].colour == colour) {
                    places[placeCount] = s;
                    placeCount++;
                }
            }
        }

        /** The least pence, with the least row for it in row; NONE if it can't win. */
        int cheapest(Meadow now, Law law, int colour, int days) {
            int rows = 1 << 2 * placeCount;
            trial.forgetAmounts();
            for (int pence = 0; pence <= MOST_EACH * placeCount; pence++) {
                for (int number = 0; number < rows; number++) {
                    if (writeRow(number) == pence && wins(now, law, colour, days)) {
                        return pence;
                    }
                }
            }
            return NONE;
        }

        /** The rows by numbers are in their order: two bits a place, the first place's highest. */
        private int writeRow(int number) {
            int pence = 0;
            for (int i = 0; i < placeCount; i++) {
                row[i] = number >> 2 * (placeCount - 1 - i) & MOST_EACH;
                pence += row[i];
            }
            return pence;
        }

        private boolean wins(Meadow now, Law law, int colour, int days) {
            trial.startRun(now);
            spreadOn(trial);
            for (int day = 0; day < days; day++) {
                trial.passDay(law);
            }
            return trial.winner() == colour;
        }

        void spreadOn(Meadow meadow) {
            for (int i = 0; i < placeCount; i++) {
                meadow.stacks[places[i]].addClover(row[i]);
            }
        }
    }

    /** WORDS about where cows were seen to eat, and what may have been SALTED by them. */
    private static final class Words {
        private static final int MOST_WORDS = 30;
        private static final int DAYS = 10;
        private static final int AT_NONE = 255;
        private static final int NONE_SALTED = 12;
        private static final int NONE_FIT = 13;
        private final int[] cows = new int[MOST_WORDS];
        private final int[] stacks = new int[MOST_WORDS];
        private final int[] days = new int[MOST_WORDS];
        private final Meadow trial;
        private int wordCount;
        /** Behind the last day that a word speaks of nothing can fail any more. */
        private int lastDay;
        private int fitCount;
        private int firstStack;
        private int firstDay;

        Words(Meadow ground) {
            trial = ground;
        }

        /** Whether all of them speak of cows, stacks and days that there are. */
        boolean readFrom(Tape tape, int n, Meadow now) {
            wordCount = n;
            lastDay = 0;
            boolean told = true;
            for (int i = 0; i < n; i++) {
                int stack = tape.byteAt(3 * i + 1);
                cows[i] = tape.byteAt(3 * i);
                stacks[i] = stack == AT_NONE ? NONE : stack;
                days[i] = tape.byteAt(3 * i + 2);
                lastDay = Math.max(lastDay, days[i]);
                told = told && cows[i] < now.cowCount && stacks[i] < now.stackCount && days[i] < DAYS;
            }
            return told;
        }

        void findFits(Meadow now, Law law) {
            fitCount = 0;
            firstStack = NONE_FIT;
            firstDay = NONE_FIT;
            trial.forgetAmounts();
            for (int s = 0; s < now.stackCount; s++) {
                for (int day = 0; day < DAYS && now.stacks[s].stands; day++) {
                    if (fits(now, law, s, now.day + day)) {
                        countFit(s, day);
                    }
                }
            }
            if (fits(now, law, NONE, NONE)) {
                countFit(NONE_SALTED, NONE_SALTED);
            }
        }

        private void countFit(int stack, int day) {
            if (fitCount == 0) {
                firstStack = stack;
                firstDay = day;
            }
            fitCount++;
        }

        private boolean fits(Meadow now, Law law, int saltStack, int saltDay) {
            trial.startRun(now);
            trial.putSalt(saltStack, saltDay);
            for (int day = 0; day <= lastDay && day < DAYS; day++) {
                trial.passDay(law);
                for (int i = 0; i < wordCount; i++) {
                    if (days[i] == day && trial.ateAt[cows[i]] != stacks[i]) {
                        return false;
                    }
                }
            }
            return true;
        }
    }

    /** The four quarters by a CUT, and who has their SEATS. */
    private static final class Districts {
        private static final int QUARTERS = 4;
        private final int[] tallies = new int[QUARTERS * COLOURS];

        void tally(Meadow meadow, int cutX, int cutY) {
            for (int i = 0; i < QUARTERS * COLOURS; i++) {
                tallies[i] = 0;
            }
            for (int c = 0; c < meadow.cowCount; c++) {
                Cow cow = meadow.cows[c];
                int quarter = (cow.y < cutY ? 0 : 2) + (cow.x < cutX ? 0 : 1);
                if (cow.lastVote != NOBODY) {
                    tallies[quarter * COLOURS + cow.lastVote] += cow.votes;
                }
            }
        }

        int holder(int quarter) {
            int holder = NOBODY;
            int most = 0;
            for (int k = 0; k < COLOURS; k++) {
                if (tallies[quarter * COLOURS + k] > most) {
                    most = tallies[quarter * COLOURS + k];
                    holder = k;
                }
            }
            return holder;
        }

        int seatsOf(int colour) {
            int seats = 0;
            for (int quarter = 0; quarter < QUARTERS; quarter++) {
                seats += holder(quarter) == colour ? 1 : 0;
            }
            return seats;
        }
    }

    /** SWINGS of a cow. Cows have one vote or a bull's, so sets are counted by how many of each. */
    private static final class Swings {
        /** All sets in which it swings; or, in orders, all orders in which it does. */
        static long sum(Meadow meadow, int cow, boolean inOrders) {
            int own = meadow.cows[cow].votes;
            int allBulls = bullCount(meadow);
            int all = meadow.cowCount + (BULL_VOTES - 1) * allBulls;
            int bulls = own == 1 ? allBulls : allBulls - 1;
            int others = meadow.cowCount - 1;
            long sum = 0;
            for (int i = 0; i <= bulls; i++) {
                for (int j = 0; j <= others - bulls; j++) {
                    int votes = BULL_VOTES * i + j;
                    if (2 * votes <= all && 2 * (votes + own) > all) {
                        long sets = choose(bulls, i) * choose(others - bulls, j);
                        sum += inOrders ? sets * factorial(i + j) * factorial(others - i - j) : sets;
                    }
                }
            }
            return sum;
        }

        private static int bullCount(Meadow meadow) {
            int bulls = 0;
            for (int c = 0; c < meadow.cowCount; c++) {
                bulls += meadow.cows[c].votes == BULL_VOTES ? 1 : 0;
            }
            return bulls;
        }

        static long factorial(int n) {
            long product = 1;
            for (int i = 2; i <= n; i++) {
                product *= i;
            }
            return product;
        }

        private static long choose(int n, int k) {
            long ways = 1;
            for (int i = 1; i <= k; i++) {
                ways = ways * (n - k + i) / i;
            }
            return ways;
        }
    }

    /** In how many ways the heat of some days comes to each sum. */
    private static final class Odds {
        private static final int MOST_DAYS = 12;
        private static final int MOST_RISE = 30;
        private final long[] ways = new long[MOST_DAYS * MOST_RISE + 1];
        private int top;
        private long all;

        void throwDays(int n, int k) {
            top = n * k;
            all = 1;
            ways[0] = 1;
            for (int sum = 1; sum <= top; sum++) {
                ways[sum] = 0;
            }
            for (int day = 0; day < n; day++) {
                all *= k + 1;
                addDay(k);
            }
        }

        /**
         * A sum comes from the k + 1 sums up to it of the day before. From the top down, so that
         * those below are still of the day before.
         */
        private void addDay(int k) {
            long window = 0;
            for (int sum = Math.max(0, top - k); sum <= top; sum++) {
                window += ways[sum];
            }
            for (int sum = top; sum >= 0; sum--) {
                long before = ways[sum];
                int entering = sum - k - 1;
                ways[sum] = window;
                window += (entering >= 0 ? ways[entering] : 0) - before;
            }
        }

        long atLeast(int need) {
            long total = 0;
            for (int sum = Math.max(0, need); sum <= top; sum++) {
                total += ways[sum];
            }
            return total;
        }
    }
}
