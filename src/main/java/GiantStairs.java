import java.util.NoSuchElementException;

/** A treaty of staircases between two giants, as ../shared/DOC.md promises it. */
public final class GiantStairs {
    private static final int GIANTS = 2;
    private static final int NEUTRAL = 2;
    private static final int NOBODY = -1;
    /** A traveller to whom steps, not breaths, and landings of all kinds count. */
    private static final int ANYBODY = -1;
    private static final int NONE = -1;

    private static final int LANDINGS = 8;
    private static final int MOST_STAIRS = 10;
    private static final int MOST_STEPS = 40;
    private static final int MOST_DUST = 20;
    private static final int MOST_HALVINGS = 3;
    private static final int MOST_LEASE_DAYS = 9;
    private static final int MOST_DAYS_TO_COME = 40;
    private static final int DUST_FOR_A_COIN = 4;
    private static final int FIRST_COINS = 30;
    private static final int LANDING_COINS = 5;
    private static final int ALL_COINS = GIANTS * FIRST_COINS;
    private static final int MOST_CHANGES = 8;
    private static final int MOST_CHARACTERS = 60;
    /** Beyond every sum of steps or breaths, and far from an overflow when such sums are added to it. */
    private static final int FAR = 1000000;

    private static final long NOT_REFUSED = 0;
    private static final int STAIRS_ARE_FULL = 1;
    private static final int NO_SUCH = 2;
    private static final int OUT_OF_RANGE = 3;
    private static final int ONE_LANDING = 4;
    private static final int IS_JOINED = 5;
    private static final int NOT_TO_HALVE = 6;
    private static final int IS_LEASED = 7;
    private static final int STANDS_ELSEWHERE = 8;
    private static final int IS_NEUTRAL = 9;
    private static final int NO_LANDING_OF_GIANT = 10;
    private static final int NO_DUST = 11;
    private static final int IS_STOOD_ON = 12;
    private static final int WRONG_OWNER = 13;
    private static final int NOT_NEXT_TO_OWN = 14;
    private static final int TOO_FEW_COINS = 15;
    private static final int ORDER_REFUSED = 16;

    private static final int BUILD = 0;
    private static final int TEAR = 1;
    private static final int HALVE = 2;
    private static final int LEASE = 3;
    private static final int CLIMB = 4;
    private static final int LEVY = 5;
    private static final int TAKE = 6;
    private static final int FREE = 7;
    private static final int ORDER_KINDS = 9;
    private static final int NO_FAULT = -1;

    private final Treaty now = new Treaty();
    /** What only could become so is tried here: orders that may be refused yet, and days to come. */
    private final Treaty draft = new Treaty();
    private final Treaty saved = new Treaty();
    private boolean isSaved = false;
    private final Treaty[] earlier = new Treaty[MOST_CHANGES];
    private int earlierCount = 0;
    /** The place in the ring of earlier treaties where the next one goes. */
    private int earlierNext = 0;
    private final Ways ways = new Ways();
    private final Orders orders = new Orders();
    private int fault = NO_FAULT;
    private long keptReason = NOT_REFUSED;
    private long keptCause = NOT_REFUSED;
    private final StringBuilder line = new StringBuilder();

    public GiantStairs() {
        for (int place = 0; place < MOST_CHANGES; place++) {
            earlier[place] = new Treaty();
        }
    }

    public int build(int one, int other, int steps) throws UnsupportedOperationException {
        if (isRefused(now.whyNotBuild(one, other, steps))) {
            throw new UnsupportedOperationException("the staircase cannot be built");
        }
        remember();
        return now.addStair(one, other, steps);
    }

    public int tear(int stair) throws UnsupportedOperationException {
        if (isRefused(now.whyNotTear(stair))) {
            throw new UnsupportedOperationException("the staircase cannot be torn down");
        }
        remember();
        return now.removeStair(stair);
    }

    public int halve(int stair) throws UnsupportedOperationException {
        if (isRefused(now.whyNotHalve(stair))) {
            throw new UnsupportedOperationException("the staircase cannot be halved");
        }
        remember();
        return now.halveSteps(stair);
    }

    public int lease(int giant, int stair, int days) throws UnsupportedOperationException {
        if (isRefused(now.whyNotLease(giant, stair, days))) {
            throw new UnsupportedOperationException("the banister cannot be leased");
        }
        remember();
        return now.leaseTo(giant, stair, days);
    }

    public int climb(int giant, int stair) throws UnsupportedOperationException {
        if (isRefused(now.whyNotClimb(giant, stair))) {
            throw new UnsupportedOperationException("the giant cannot go over the staircase");
        }
        remember();
        return now.goOver(giant, stair);
    }

    public int levy(int giant, int stair) throws UnsupportedOperationException {
        if (isRefused(now.whyNotLevy(giant, stair))) {
            throw new UnsupportedOperationException("the giant cannot levy dust there");
        }
        remember();
        return now.levyDust(giant, stair);
    }

    public int take(int landing) throws UnsupportedOperationException {
        if (isRefused(now.whyNotTake(landing))) {
            throw new UnsupportedOperationException("the landing cannot be taken");
        }
        remember();
        return now.takeLanding(landing);
    }

    public int free(int giant, int landing) throws UnsupportedOperationException {
        if (isRefused(now.whyNotFree(giant, landing))) {
            throw new UnsupportedOperationException("the landing cannot be made neutral");
        }
        remember();
        return now.freeLanding(giant, landing);
    }

    public int day() {
        remember();
        return now.passDay();
    }

    public int giantOf(int giant, int what) throws IndexOutOfBoundsException, IllegalArgumentException {
        if (!isGiant(giant)) {
            throw new IndexOutOfBoundsException("no such giant");
        }
        switch (what) {
            case 0: return now.giants[giant].coins;
            case 1: return now.giants[giant].landing;
            case 2: return now.landingsOf(giant);
            case 3: return now.giants[giant].breathsSoFar;
            case 4: return now.leasesOf(giant);
            case 5: return now.giants[giant].rentsGiven;
            case 6: return now.giants[giant].tollsGot;
            default: throw new IllegalArgumentException("a giant has no such number");
        }
    }

    public int landingOf(int landing, int what) throws IndexOutOfBoundsException, IllegalArgumentException {
        if (!isLanding(landing)) {
            throw new IndexOutOfBoundsException("no such landing");
        }
        switch (what) {
            case 0: return now.owners[landing];
            case 1: return Integer.bitCount(now.joinedWith(landing));
            case 2: return now.whoStandsOn(landing);
            case 3: return now.joinedWith(landing);
            default: throw new IllegalArgumentException("a landing has no such number");
        }
    }

    public int stairOf(int stair, int what) throws IndexOutOfBoundsException, IllegalArgumentException {
        if (!now.isStair(stair)) {
            throw new IndexOutOfBoundsException("no such staircase");
        }
        Stair asked = now.stairs[stair];
        switch (what) {
            case 0: return asked.lower;
            case 1: return asked.upper;
            case 2: return asked.stepCount;
            case 3: return asked.dust;
            case 4: return asked.halvings;
            case 5: return asked.leaser;
            case 6: return asked.leaseDays;
            case 7: return asked.rent();
            default: throw new IllegalArgumentException("a staircase has no such number");
        }
    }

    public int between(int one, int other) throws IndexOutOfBoundsException, NoSuchElementException {
        if (!isLanding(one) || !isLanding(other)) {
            throw new IndexOutOfBoundsException("no such landing");
        }
        int stair = now.stairThatJoins(one, other);
        if (stair == NONE) {
            throw new NoSuchElementException("no staircase joins the landings");
        }
        return stair;
    }

    public int breaths(int giant, int stair) throws IndexOutOfBoundsException {
        if (!isGiant(giant) || !now.isStair(stair)) {
            throw new IndexOutOfBoundsException("no such giant or staircase");
        }
        return now.stairs[stair].costFor(giant);
    }

    public int steps(int one, int other) throws IndexOutOfBoundsException, NoSuchElementException {
        if (!isLanding(one) || !isLanding(other)) {
            throw new IndexOutOfBoundsException("no such landing");
        }
        ways.goNearestFirst(now, ANYBODY, one);
        if (ways.lengths[other] >= FAR) {
            throw new NoSuchElementException("no staircases lead there");
        }
        return ways.lengths[other];
    }

    public int stepsAgain(int one, int other) throws IndexOutOfBoundsException, NoSuchElementException {
        if (!isLanding(one) || !isLanding(other)) {
            throw new IndexOutOfBoundsException("no such landing");
        }
        ways.goOverMoreAndMore(now);
        if (ways.table[one][other] >= FAR) {
            throw new NoSuchElementException("no staircases lead there");
        }
        return ways.table[one][other];
    }

    public int way(int giant, int landing) throws IndexOutOfBoundsException, NoSuchElementException {
        if (!isGiant(giant) || !isLanding(landing)) {
            throw new IndexOutOfBoundsException("no such giant or landing");
        }
        ways.goNearestFirst(now, giant, now.giants[giant].landing);
        if (ways.lengths[landing] >= FAR) {
            throw new NoSuchElementException("the giant cannot come there");
        }
        return ways.lengths[landing];
    }

    public int wayAgain(int giant, int landing) throws IndexOutOfBoundsException, NoSuchElementException {
        if (!isGiant(giant) || !isLanding(landing)) {
            throw new IndexOutOfBoundsException("no such giant or landing");
        }
        ways.goAgainAndAgain(now, giant);
        if (ways.lengthsAgain[landing] >= FAR) {
            throw new NoSuchElementException("the giant cannot come there");
        }
        return ways.lengthsAgain[landing];
    }

    public int first(int giant, int landing) throws IndexOutOfBoundsException, NoSuchElementException {
        if (!isGiant(giant) || !isLanding(landing)) {
            throw new IndexOutOfBoundsException("no such giant or landing");
        }
        int stair = ways.firstStair(now, giant, landing);
        if (stair == NONE) {
            throw new NoSuchElementException("the giant cannot come there, or stands there");
        }
        return stair;
    }

    public int reach(int giant) throws IndexOutOfBoundsException {
        if (!isGiant(giant)) {
            throw new IndexOutOfBoundsException("no such giant");
        }
        ways.goNearestFirst(now, giant, now.giants[giant].landing);
        int reached = 0;
        for (int landing = 0; landing < LANDINGS; landing++) {
            if (ways.lengths[landing] < FAR) {
                reached |= 1 << landing;
            }
        }
        return reached;
    }

    public int dustIn(int stair, int days) throws IndexOutOfBoundsException, IllegalArgumentException {
        if (!now.isStair(stair)) {
            throw new IndexOutOfBoundsException("no such staircase");
        }
        if (!isInRange(days, 0, MOST_DAYS_TO_COME)) {
            throw new IllegalArgumentException("the days are out of range");
        }
        Stair asked = now.stairs[stair];
        int dust = asked.dust;
        for (int day = 0; day < days; day++) {
            dust = Math.min(MOST_DUST, dust + asked.dustPerDay());
        }
        return dust;
    }

    public int dustAgain(int stair, int days) throws IndexOutOfBoundsException, IllegalArgumentException {
        if (!now.isStair(stair)) {
            throw new IndexOutOfBoundsException("no such staircase");
        }
        if (!isInRange(days, 0, MOST_DAYS_TO_COME)) {
            throw new IllegalArgumentException("the days are out of range");
        }
        Stair asked = now.stairs[stair];
        return Math.min(MOST_DUST, asked.dust + days * asked.dustPerDay());
    }

    public int rentsIn(int days) throws IllegalArgumentException {
        if (!isInRange(days, 0, MOST_DAYS_TO_COME)) {
            throw new IllegalArgumentException("the days are out of range");
        }
        draft.copyFrom(now);
        int rents = 0;
        for (int day = 0; day < days; day++) {
            rents += draft.passDay();
        }
        return rents;
    }

    public int levyOf(int giant, int stair) throws IndexOutOfBoundsException {
        if (!isGiant(giant) || !now.isStair(stair)) {
            throw new IndexOutOfBoundsException("no such giant or staircase");
        }
        return now.levyToCome(giant, stair);
    }

    public int bestLevy(int giant) throws IndexOutOfBoundsException, NoSuchElementException {
        if (!isGiant(giant)) {
            throw new IndexOutOfBoundsException("no such giant");
        }
        int best = NONE;
        int most = 0;
        for (int stair = 0; stair < now.stairCount; stair++) {
            int coins = now.levyToCome(giant, stair);
            if (coins > most) {
                most = coins;
                best = stair;
            }
        }
        if (best == NONE) {
            throw new NoSuchElementException("no levy would bring a coin");
        }
        return best;
    }

    public boolean canTake(int landing) throws IndexOutOfBoundsException {
        if (!isLanding(landing)) {
            throw new IndexOutOfBoundsException("no such landing");
        }
        return now.whyNotTake(landing) == NOT_REFUSED;
    }

    public int takable() {
        int landings = 0;
        for (int landing = 0; landing < LANDINGS; landing++) {
            if (now.whyNotTake(landing) == NOT_REFUSED) {
                landings |= 1 << landing;
            }
        }
        return landings;
    }

    public int turn() {
        return now.turnOf;
    }

    public int ranked(int kind, int place) throws IllegalArgumentException, NoSuchElementException {
        if (!isInRange(kind, 0, 3)) {
            throw new IllegalArgumentException("no such kind of order");
        }
        int found = NONE;
        for (int stair = 0; stair < now.stairCount; stair++) {
            if (now.placeOf(stair, kind) == place) {
                found = stair;
            }
        }
        if (found == NONE) {
            throw new NoSuchElementException("no such place in the order");
        }
        return found;
    }

    public boolean isTold() {
        return areStepsTold() && areBreathsTold(0) && areBreathsTold(1)
            && now.isNoGiantOnNeutral() && now.coinsOfAll() == ALL_COINS;
    }

    public int append(char character) throws IllegalArgumentException, IllegalStateException {
        if (!isInRange(character, 32, 126)) {
            throw new IllegalArgumentException("the character cannot be in a text");
        }
        if (orders.text.length() >= MOST_CHARACTERS) {
            throw new IllegalStateException("the input is full");
        }
        orders.text.append(character);
        return orders.text.length();
    }

    public int run() throws IllegalArgumentException, UnsupportedOperationException {
        fault = orders.read();
        orders.text.setLength(0);
        if (fault != NO_FAULT) {
            throw new IllegalArgumentException("the text has a fault");
        }
        if (isAnyOrderRefused()) {
            throw new UnsupportedOperationException("an order of the text is refused");
        }
        remember();
        now.copyFrom(draft);
        return orders.count;
    }

    public int faultPosition() {
        return fault;
    }

    public int reason(int depth, boolean isDetail) throws IllegalArgumentException, NoSuchElementException {
        if (!isInRange(depth, 0, 1)) {
            throw new IllegalArgumentException("no such depth");
        }
        long told = depth == 0 ? keptReason : keptCause;
        if (told == NOT_REFUSED) {
            throw new NoSuchElementException("nothing was refused, or there is no cause");
        }
        return isDetail ? detailOf(told) : numberOf(told);
    }

    public int tellGiant(int giant) throws IndexOutOfBoundsException {
        if (!isGiant(giant)) {
            throw new IndexOutOfBoundsException("no such giant");
        }
        Giant told = now.giants[giant];
        line.setLength(0);
        line.append(giant).append('@').append(told.landing).append('$').append(told.coins);
        if (now.turnOf == giant) {
            line.append('!');
        }
        return line.length();
    }

    public int tellStair(int stair) throws IndexOutOfBoundsException {
        if (!now.isStair(stair)) {
            throw new IndexOutOfBoundsException("no such staircase");
        }
        Stair told = now.stairs[stair];
        line.setLength(0);
        line.append(stair).append(':').append(told.lower).append(told.upper);
        line.append('^').append(told.stepCount).append('~').append(told.dust);
        if (told.isLeased()) {
            line.append('=').append(told.leaser).append('/').append(told.leaseDays);
        }
        return line.length();
    }

    public int tellLandings() {
        line.setLength(0);
        for (int landing = 0; landing < LANDINGS; landing++) {
            if (now.owners[landing] == NEUTRAL) {
                line.append('.');
            } else {
                line.append(now.owners[landing]);
            }
        }
        return line.length();
    }

    public char character(int index) throws IndexOutOfBoundsException {
        if (index < 0 || index >= line.length()) {
            throw new IndexOutOfBoundsException("no such index in the line");
        }
        return line.charAt(index);
    }

    public int account(int what) throws IllegalArgumentException {
        switch (what) {
            case 0: return now.stairCount;
            case 1: return now.landingsOf(NEUTRAL);
            case 2: return now.dayCount;
            case 3: return now.coins;
            case 4: return now.leasesOf(0) + now.leasesOf(1);
            case 5: return now.dustOnAll();
            case 6: return now.giants[0].rentsGiven + now.giants[1].rentsGiven;
            case 7: return now.coinsLevied;
            case 8: return now.giants[0].tollsGot + now.giants[1].tollsGot;
            case 9: return now.giants[0].breathsSoFar + now.giants[1].breathsSoFar;
            case 10: return now.landingsTaken;
            case 11: return now.stairsHalved;
            case 12: return orders.text.length();
            case 13: return earlierCount;
            default: throw new IllegalArgumentException("no such account");
        }
    }

    public double meanSteps() throws ArithmeticException {
        if (now.stairCount == 0) {
            throw new ArithmeticException("there are no staircases");
        }
        return (double) now.stepsOfAll() / now.stairCount;
    }

    public float leasedShare() throws ArithmeticException {
        if (now.stairCount == 0) {
            throw new ArithmeticException("there are no staircases");
        }
        return (float) (now.leasesOf(0) + now.leasesOf(1)) / now.stairCount;
    }

    public int undo() throws IllegalStateException {
        if (earlierCount == 0) {
            throw new IllegalStateException("no change can be undone");
        }
        earlierNext = (earlierNext + MOST_CHANGES - 1) % MOST_CHANGES;
        earlierCount--;
        now.copyFrom(earlier[earlierNext]);
        return earlierCount;
    }

    public int save() {
        saved.copyFrom(now);
        isSaved = true;
        return now.stairCount;
    }

    public int restore() throws IllegalStateException {
        if (!isSaved) {
            throw new IllegalStateException("nothing was saved");
        }
        now.copyFrom(saved);
        earlierCount = 0;
        return now.stairCount;
    }

    private void remember() {
        earlier[earlierNext].copyFrom(now);
        earlierNext = (earlierNext + 1) % MOST_CHANGES;
        earlierCount = Math.min(MOST_CHANGES, earlierCount + 1);
    }

    private boolean isRefused(long refusal) {
        if (refusal == NOT_REFUSED) {
            return false;
        }
        keptReason = refusal;
        keptCause = NOT_REFUSED;
        return true;
    }

    /** The orders are done on the draft, so that the treaty is as before if a late one is refused. */
    private boolean isAnyOrderRefused() {
        draft.copyFrom(now);
        for (int order = 0; order < orders.count; order++) {
            long refusal = orders.whyNotDo(order, draft);
            if (refusal != NOT_REFUSED) {
                keptReason = refusalFor(ORDER_REFUSED, order);
                keptCause = refusal;
                return true;
            }
            orders.doOrder(order, draft);
        }
        return false;
    }

    private boolean areStepsTold() {
        ways.goOverMoreAndMore(now);
        for (int one = 0; one < LANDINGS; one++) {
            ways.goNearestFirst(now, ANYBODY, one);
            for (int other = 0; other < LANDINGS; other++) {
                if (ways.lengths[other] != ways.table[one][other]) {
                    return false;
                }
            }
        }
        return true;
    }

    private boolean areBreathsTold(int giant) {
        ways.goNearestFirst(now, giant, now.giants[giant].landing);
        ways.goAgainAndAgain(now, giant);
        for (int landing = 0; landing < LANDINGS; landing++) {
            if (ways.lengths[landing] != ways.lengthsAgain[landing]) {
                return false;
            }
        }
        return true;
    }

    private static boolean isInRange(int number, int least, int most) {
        return number >= least && number <= most;
    }

    private static boolean isGiant(int giant) {
        return isInRange(giant, 0, GIANTS - 1);
    }

    private static boolean isLanding(int landing) {
        return isInRange(landing, 0, LANDINGS - 1);
    }

    /** Both numbers go into one, so that asking for a refusal makes no object and changes nothing. */
    private static long refusalFor(int number, int detail) {
        return ((long) number << 32) | (detail & 0xFFFFFFFFL);
    }

    private static int numberOf(long refusal) {
        return (int) (refusal >> 32);
    }

    private static int detailOf(long refusal) {
        return (int) refusal;
    }

    private static final class Giant {
        private int coins = FIRST_COINS;
        private int landing;
        private int breathsSoFar = 0;
        private int rentsGiven = 0;
        private int tollsGot = 0;

        Giant(int landing) {
            this.landing = landing;
        }

        void copyFrom(Giant other) {
            coins = other.coins;
            landing = other.landing;
            breathsSoFar = other.breathsSoFar;
            rentsGiven = other.rentsGiven;
            tollsGot = other.tollsGot;
        }
    }

    private static final class Stair {
        private int lower = 0;
        private int upper = 0;
        private int stepCount = 0;
        private int dust = 0;
        private int halvings = 0;
        private int leaser = NOBODY;
        private int leaseDays = 0;

        void copyFrom(Stair other) {
            lower = other.lower;
            upper = other.upper;
            stepCount = other.stepCount;
            dust = other.dust;
            halvings = other.halvings;
            leaser = other.leaser;
            leaseDays = other.leaseDays;
        }

        void startAnew(int one, int other, int newSteps) {
            lower = Math.min(one, other);
            upper = Math.max(one, other);
            stepCount = newSteps;
            dust = 0;
            halvings = 0;
            endLease();
        }

        void endLease() {
            leaser = NOBODY;
            leaseDays = 0;
        }

        boolean isLeased() {
            return isGiant(leaser);
        }

        boolean isEnd(int landing) {
            return lower == landing || upper == landing;
        }

        int otherEnd(int landing) {
            return lower == landing ? upper : lower;
        }

        int rent() {
            return 1 + stepCount / 8;
        }

        int dustPerDay() {
            return 1 + stepCount / 5;
        }

        int costFor(int traveller) {
            return traveller == ANYBODY || leaser == traveller ? stepCount : 2 * stepCount;
        }

        int keyOf(int kind) {
            switch (kind) {
                case 0: return stepCount;
                case 1: return dust;
                case 2: return leaseDays;
                default: return rent();
            }
        }
    }

    /** All that goes back when a change is undone. */
    private static final class Treaty {
        private final Giant[] giants = new Giant[GIANTS];
        private final int[] owners = new int[LANDINGS];
        private final Stair[] stairs = new Stair[MOST_STAIRS];
        private int stairCount = 0;
        private int dayCount = 0;
        private int turnOf = 0;
        private int coins = 0;
        private int coinsLevied = 0;
        private int landingsTaken = 0;
        private int stairsHalved = 0;

        Treaty() {
            for (int landing = 0; landing < LANDINGS; landing++) {
                owners[landing] = NEUTRAL;
            }
            for (int giant = 0; giant < GIANTS; giant++) {
                giants[giant] = new Giant(giant);
                owners[giant] = giant;
            }
            for (int stair = 0; stair < MOST_STAIRS; stair++) {
                stairs[stair] = new Stair();
            }
        }

        void copyFrom(Treaty other) {
            for (int giant = 0; giant < GIANTS; giant++) {
                giants[giant].copyFrom(other.giants[giant]);
            }
            System.arraycopy(other.owners, 0, owners, 0, LANDINGS);
            for (int stair = 0; stair < MOST_STAIRS; stair++) {
                stairs[stair].copyFrom(other.stairs[stair]);
            }
            stairCount = other.stairCount;
            dayCount = other.dayCount;
            turnOf = other.turnOf;
            coins = other.coins;
            coinsLevied = other.coinsLevied;
            landingsTaken = other.landingsTaken;
            stairsHalved = other.stairsHalved;
        }

        boolean isStair(int stair) {
            return isInRange(stair, 0, stairCount - 1);
        }

        long whyNotBuild(int one, int other, int steps) {
            if (!isLanding(one)) {
                return refusalFor(NO_SUCH, one);
            }
            if (!isLanding(other)) {
                return refusalFor(NO_SUCH, other);
            }
            if (!isInRange(steps, 1, MOST_STEPS)) {
                return refusalFor(OUT_OF_RANGE, steps);
            }
            if (one == other) {
                return refusalFor(ONE_LANDING, one);
            }
            int joining = stairThatJoins(one, other);
            if (joining != NONE) {
                return refusalFor(IS_JOINED, joining);
            }
            if (stairCount >= MOST_STAIRS) {
                return refusalFor(STAIRS_ARE_FULL, stairCount);
            }
            return NOT_REFUSED;
        }

        int addStair(int one, int other, int steps) {
            int stair = stairCount;
            stairs[stair].startAnew(one, other, steps);
            stairCount++;
            return stair;
        }

        long whyNotTear(int stair) {
            return isStair(stair) ? NOT_REFUSED : refusalFor(NO_SUCH, stair);
        }

        int removeStair(int stair) {
            Stair torn = stairs[stair];
            for (int later = stair + 1; later < stairCount; later++) {
                stairs[later - 1] = stairs[later];
            }
            stairCount--;
            stairs[stairCount] = torn;
            return stairCount;
        }

        long whyNotHalve(int stair) {
            if (!isStair(stair)) {
                return refusalFor(NO_SUCH, stair);
            }
            Stair halved = stairs[stair];
            if (halved.halvings >= MOST_HALVINGS || halved.stepCount == 1) {
                return refusalFor(NOT_TO_HALVE, halved.stepCount);
            }
            return NOT_REFUSED;
        }

        int halveSteps(int stair) {
            Stair halved = stairs[stair];
            halved.stepCount = (halved.stepCount + 1) / 2;
            halved.halvings++;
            stairsHalved++;
            return halved.stepCount;
        }

        long whyNoGiantOrStair(int giant, int stair) {
            if (!isGiant(giant)) {
                return refusalFor(NO_SUCH, giant);
            }
            return isStair(stair) ? NOT_REFUSED : refusalFor(NO_SUCH, stair);
        }

        long whyNotLease(int giant, int stair, int days) {
            long noSuch = whyNoGiantOrStair(giant, stair);
            if (noSuch != NOT_REFUSED) {
                return noSuch;
            }
            if (!isInRange(days, 1, MOST_LEASE_DAYS)) {
                return refusalFor(OUT_OF_RANGE, days);
            }
            if (stairs[stair].isLeased()) {
                return refusalFor(IS_LEASED, stairs[stair].leaseDays);
            }
            return NOT_REFUSED;
        }

        int leaseTo(int giant, int stair, int days) {
            Stair leased = stairs[stair];
            leased.leaser = giant;
            leased.leaseDays = days;
            return leased.rent();
        }

        long whyNotClimb(int giant, int stair) {
            long noSuch = whyNoGiantOrStair(giant, stair);
            if (noSuch != NOT_REFUSED) {
                return noSuch;
            }
            int from = giants[giant].landing;
            if (!stairs[stair].isEnd(from)) {
                return refusalFor(STANDS_ELSEWHERE, from);
            }
            int to = stairs[stair].otherEnd(from);
            if (owners[to] == NEUTRAL) {
                return refusalFor(IS_NEUTRAL, to);
            }
            return NOT_REFUSED;
        }

        int goOver(int giant, int stair) {
            Giant climber = giants[giant];
            Stair climbed = stairs[stair];
            climber.landing = climbed.otherEnd(climber.landing);
            if (owners[climber.landing] == 1 - giant && climber.coins > 0) {
                climber.coins--;
                giants[1 - giant].coins++;
                giants[1 - giant].tollsGot++;
            }
            climbed.dust -= climbed.dust / 2;
            int breathsTaken = climbed.costFor(giant);
            climber.breathsSoFar += breathsTaken;
            return breathsTaken;
        }

        long whyNotLevy(int giant, int stair) {
            long noSuch = whyNoGiantOrStair(giant, stair);
            if (noSuch != NOT_REFUSED) {
                return noSuch;
            }
            Stair levied = stairs[stair];
            if (owners[levied.lower] != giant && owners[levied.upper] != giant) {
                return refusalFor(NO_LANDING_OF_GIANT, stair);
            }
            if (levied.dust == 0) {
                return refusalFor(NO_DUST, levied.stepCount);
            }
            return NOT_REFUSED;
        }

        private int coinsForDust(int giant, int stair) {
            return Math.min(stairs[stair].dust / DUST_FOR_A_COIN, giants[1 - giant].coins);
        }

        int levyToCome(int giant, int stair) {
            return whyNotLevy(giant, stair) == NOT_REFUSED ? coinsForDust(giant, stair) : 0;
        }

        int levyDust(int giant, int stair) {
            int given = coinsForDust(giant, stair);
            giants[1 - giant].coins -= given;
            giants[giant].coins += given;
            coinsLevied += given;
            stairs[stair].dust = 0;
            return given;
        }

        int takingCoins(int landing) {
            return owners[landing] == NEUTRAL ? LANDING_COINS : 2 * LANDING_COINS;
        }

        long whyNotTake(int landing) {
            if (!isLanding(landing)) {
                return refusalFor(NO_SUCH, landing);
            }
            if (owners[landing] == turnOf) {
                return refusalFor(WRONG_OWNER, turnOf);
            }
            if (whoStandsOn(landing) != NOBODY) {
                return refusalFor(IS_STOOD_ON, whoStandsOn(landing));
            }
            if (!isNextTo(landing, turnOf)) {
                return refusalFor(NOT_NEXT_TO_OWN, landingsOf(turnOf));
            }
            if (giants[turnOf].coins < takingCoins(landing)) {
                return refusalFor(TOO_FEW_COINS, giants[turnOf].coins);
            }
            return NOT_REFUSED;
        }

        int takeLanding(int landing) {
            Giant taker = giants[turnOf];
            taker.coins -= takingCoins(landing);
            coins += LANDING_COINS;
            if (owners[landing] != NEUTRAL) {
                giants[1 - turnOf].coins += LANDING_COINS;
            }
            owners[landing] = turnOf;
            landingsTaken++;
            return taker.coins;
        }

        long whyNotFree(int giant, int landing) {
            if (!isGiant(giant)) {
                return refusalFor(NO_SUCH, giant);
            }
            if (!isLanding(landing)) {
                return refusalFor(NO_SUCH, landing);
            }
            if (owners[landing] != giant) {
                return refusalFor(WRONG_OWNER, owners[landing]);
            }
            if (whoStandsOn(landing) != NOBODY) {
                return refusalFor(IS_STOOD_ON, whoStandsOn(landing));
            }
            return NOT_REFUSED;
        }

        int freeLanding(int giant, int landing) {
            owners[landing] = NEUTRAL;
            return landingsOf(giant);
        }

        int passDay() {
            int given = 0;
            for (int stair = 0; stair < stairCount; stair++) {
                Stair passed = stairs[stair];
                passed.dust = Math.min(MOST_DUST, passed.dust + passed.dustPerDay());
                given += giveRent(passed);
            }
            dayCount++;
            turnOf = 1 - turnOf;
            return given;
        }

        private int giveRent(Stair stair) {
            if (!stair.isLeased()) {
                return 0;
            }
            Giant giver = giants[stair.leaser];
            int rent = stair.rent();
            if (giver.coins < rent) {
                stair.endLease();
                return 0;
            }
            giver.coins -= rent;
            giver.rentsGiven += rent;
            coins += rent;
            stair.leaseDays--;
            if (stair.leaseDays == 0) {
                stair.endLease();
            }
            return rent;
        }

        int stairThatJoins(int one, int other) {
            for (int stair = 0; stair < stairCount; stair++) {
                if (one != other && stairs[stair].isEnd(one) && stairs[stair].isEnd(other)) {
                    return stair;
                }
            }
            return NONE;
        }

        int joinedWith(int landing) {
            int landings = 0;
            for (int stair = 0; stair < stairCount; stair++) {
                if (stairs[stair].isEnd(landing)) {
                    landings |= 1 << stairs[stair].otherEnd(landing);
                }
            }
            return landings;
        }

        boolean isNextTo(int landing, int giant) {
            int landings = joinedWith(landing);
            for (int other = 0; other < LANDINGS; other++) {
                if ((landings >> other & 1) == 1 && owners[other] == giant) {
                    return true;
                }
            }
            return false;
        }

        int whoStandsOn(int landing) {
            for (int giant = 0; giant < GIANTS; giant++) {
                if (giants[giant].landing == landing) {
                    return giant;
                }
            }
            return NOBODY;
        }

        int landingsOf(int owner) {
            int number = 0;
            for (int landing = 0; landing < LANDINGS; landing++) {
                if (owners[landing] == owner) {
                    number++;
                }
            }
            return number;
        }

        int leasesOf(int giant) {
            int number = 0;
            for (int stair = 0; stair < stairCount; stair++) {
                if (stairs[stair].leaser == giant) {
                    number++;
                }
            }
            return number;
        }

        int dustOnAll() {
            int sum = 0;
            for (int stair = 0; stair < stairCount; stair++) {
                sum += stairs[stair].dust;
            }
            return sum;
        }

        int stepsOfAll() {
            int sum = 0;
            for (int stair = 0; stair < stairCount; stair++) {
                sum += stairs[stair].stepCount;
            }
            return sum;
        }

        int placeOf(int stair, int kind) {
            int key = stairs[stair].keyOf(kind);
            int before = 0;
            for (int other = 0; other < stairCount; other++) {
                int otherKey = stairs[other].keyOf(kind);
                if (otherKey > key || otherKey == key && other < stair) {
                    before++;
                }
            }
            return before;
        }

        boolean isOpenTo(int traveller, int landing) {
            return traveller == ANYBODY || owners[landing] != NEUTRAL;
        }

        boolean isNoGiantOnNeutral() {
            return owners[giants[0].landing] != NEUTRAL && owners[giants[1].landing] != NEUTRAL;
        }

        int coinsOfAll() {
            return giants[0].coins + giants[1].coins + coins;
        }
    }

    /** Looks for ways, in rows that are used again by each search. */
    private static final class Ways {
        private final int[] lengths = new int[LANDINGS];
        private final boolean[] isDone = new boolean[LANDINGS];
        private final int[] lengthsAgain = new int[LANDINGS];
        private final int[][] table = new int[LANDINGS][LANDINGS];

        void goNearestFirst(Treaty treaty, int traveller, int start) {
            for (int landing = 0; landing < LANDINGS; landing++) {
                lengths[landing] = FAR;
                isDone[landing] = false;
            }
            if (treaty.isOpenTo(traveller, start)) {
                lengths[start] = 0;
            }
            for (int round = 0; round < LANDINGS; round++) {
                int nearest = nearestToDo();
                if (nearest == NONE) {
                    return;
                }
                isDone[nearest] = true;
                goOnFrom(treaty, traveller, nearest);
            }
        }

        private int nearestToDo() {
            int nearest = NONE;
            int least = FAR;
            for (int landing = 0; landing < LANDINGS; landing++) {
                if (!isDone[landing] && lengths[landing] < least) {
                    least = lengths[landing];
                    nearest = landing;
                }
            }
            return nearest;
        }

        private void goOnFrom(Treaty treaty, int traveller, int landing) {
            for (int stair = 0; stair < treaty.stairCount; stair++) {
                if (treaty.stairs[stair].isEnd(landing)) {
                    goOver(treaty, traveller, treaty.stairs[stair], landing, lengths);
                }
            }
        }

        private void goOver(Treaty treaty, int traveller, Stair stair, int from, int[] row) {
            int to = stair.otherEnd(from);
            if (treaty.isOpenTo(traveller, to)) {
                row[to] = Math.min(row[to], row[from] + stair.costFor(traveller));
            }
        }

        void goOverMoreAndMore(Treaty treaty) {
            for (int one = 0; one < LANDINGS; one++) {
                for (int other = 0; other < LANDINGS; other++) {
                    table[one][other] = one == other ? 0 : FAR;
                }
            }
            for (int stair = 0; stair < treaty.stairCount; stair++) {
                Stair joining = treaty.stairs[stair];
                table[joining.lower][joining.upper] = joining.stepCount;
                table[joining.upper][joining.lower] = joining.stepCount;
            }
            for (int over = 0; over < LANDINGS; over++) {
                allowOver(over);
            }
        }

        private void allowOver(int over) {
            for (int one = 0; one < LANDINGS; one++) {
                for (int other = 0; other < LANDINGS; other++) {
                    int detour = table[one][over] + table[over][other];
                    table[one][other] = Math.min(table[one][other], detour);
                }
            }
        }

        void goAgainAndAgain(Treaty treaty, int giant) {
            for (int landing = 0; landing < LANDINGS; landing++) {
                lengthsAgain[landing] = FAR;
            }
            lengthsAgain[treaty.giants[giant].landing] = 0;
            // No way of the fewest breaths goes over more staircases than there are other landings.
            for (int round = 1; round < LANDINGS; round++) {
                for (int stair = 0; stair < treaty.stairCount; stair++) {
                    Stair next = treaty.stairs[stair];
                    goOver(treaty, giant, next, next.lower, lengthsAgain);
                    goOver(treaty, giant, next, next.upper, lengthsAgain);
                }
            }
        }

        /** Goes back from the goal, so that what remains behind each first staircase is known. */
        int firstStair(Treaty treaty, int giant, int goal) {
            int start = treaty.giants[giant].landing;
            goNearestFirst(treaty, giant, goal);
            if (start == goal || lengths[start] >= FAR) {
                return NONE;
            }
            for (int stair = 0; stair < treaty.stairCount; stair++) {
                Stair next = treaty.stairs[stair];
                if (next.isEnd(start)
                    && next.costFor(giant) + lengths[next.otherEnd(start)] == lengths[start]) {
                    return stair;
                }
            }
            return NONE;
        }
    }

    /** The input, and the orders that were read from it. */
    private static final class Orders {
        /** The shortest order with its ";" has 4 characters. */
        private static final int MOST_ORDERS = MOST_CHARACTERS / 4;
        private static final int MOST_NUMBERS = 3;

        private final StringBuilder text = new StringBuilder();
        private final int[] kinds = new int[MOST_ORDERS];
        private final int[][] numbers = new int[MOST_ORDERS][MOST_NUMBERS];
        private int count = 0;

        /** The forms of the orders by their kinds, where # is a digit. */
        private static String formOf(int kind) {
            switch (kind) {
                case BUILD: return "build ## #";
                case TEAR: return "tear #";
                case HALVE: return "halve #";
                case LEASE: return "lease # # #";
                case CLIMB: return "climb # #";
                case LEVY: return "levy # #";
                case TAKE: return "take #";
                case FREE: return "free # #";
                default: return "day";
            }
        }

        private static boolean isDigit(char character) {
            return isInRange(character, '0', '9');
        }

        /** Answers the fault position. */
        int read() {
            count = 0;
            int position = 0;
            for (int order = 0; order < MOST_ORDERS; order++) {
                int kind = kindThatGoesFarthest(position);
                int fitting = charactersThatFit(formOf(kind), position);
                if (fitting < formOf(kind).length()) {
                    return position + fitting;
                }
                position = readOrder(order, kind, position);
                count = order + 1;
                if (position >= text.length()) {
                    return NO_FAULT;
                }
                if (text.charAt(position) != ';') {
                    return position;
                }
                position++;
            }
            return position;
        }

        private int kindThatGoesFarthest(int position) {
            int farthest = 0;
            int most = 0;
            for (int kind = 0; kind < ORDER_KINDS; kind++) {
                int fitting = charactersThatFit(formOf(kind), position);
                if (fitting > most) {
                    most = fitting;
                    farthest = kind;
                }
            }
            return farthest;
        }

        private int charactersThatFit(String form, int position) {
            for (int index = 0; index < form.length(); index++) {
                if (position + index >= text.length()) {
                    return index;
                }
                char due = form.charAt(index);
                char found = text.charAt(position + index);
                if (due == '#' ? !isDigit(found) : found != due) {
                    return index;
                }
            }
            return form.length();
        }

        /** Answers the position behind the order, which is known to fit its form. */
        private int readOrder(int order, int kind, int position) {
            String form = formOf(kind);
            kinds[order] = kind;
            int next = 0;
            for (int index = 0; index < form.length() && position + index < text.length(); index++) {
                if (form.charAt(index) == '#' && next < MOST_NUMBERS) {
                    numbers[order][next] = text.charAt(position + index) - '0';
                    next++;
                }
            }
            int end = position + form.length();
            if (kind == BUILD && end < text.length() && isDigit(text.charAt(end))) {
                numbers[order][2] = 10 * numbers[order][2] + text.charAt(end) - '0';
                end++;
            }
            return end;
        }

        long whyNotDo(int order, Treaty treaty) {
            int[] given = numbers[order];
            switch (kinds[order]) {
                case BUILD: return treaty.whyNotBuild(given[0], given[1], given[2]);
                case TEAR: return treaty.whyNotTear(given[0]);
                case HALVE: return treaty.whyNotHalve(given[0]);
                case LEASE: return treaty.whyNotLease(given[0], given[1], given[2]);
                case CLIMB: return treaty.whyNotClimb(given[0], given[1]);
                case LEVY: return treaty.whyNotLevy(given[0], given[1]);
                case TAKE: return treaty.whyNotTake(given[0]);
                case FREE: return treaty.whyNotFree(given[0], given[1]);
                default: return NOT_REFUSED;
            }
        }

        int doOrder(int order, Treaty treaty) {
            int[] given = numbers[order];
            switch (kinds[order]) {
                case BUILD: return treaty.addStair(given[0], given[1], given[2]);
                case TEAR: return treaty.removeStair(given[0]);
                case HALVE: return treaty.halveSteps(given[0]);
                case LEASE: return treaty.leaseTo(given[0], given[1], given[2]);
                case CLIMB: return treaty.goOver(given[0], given[1]);
                case LEVY: return treaty.levyDust(given[0], given[1]);
                case TAKE: return treaty.takeLanding(given[0]);
                case FREE: return treaty.freeLanding(given[0], given[1]);
                default: return treaty.passDay();
            }
        }
    }
}
