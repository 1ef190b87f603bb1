import java.util.NoSuchElementException;
import java.util.Objects;

/** At least one test for each promise of the document: ordinary inputs, named edges and wrong inputs. */
public final class PromisesTest {
    private static final Class<? extends RuntimeException> INDEX = IndexOutOfBoundsException.class;
    private static final Class<? extends RuntimeException> ARGUMENT = IllegalArgumentException.class;
    private static final Class<? extends RuntimeException> STATE = IllegalStateException.class;
    private static final Class<? extends RuntimeException> MISSING = NoSuchElementException.class;
    private static final Class<? extends RuntimeException> REFUSED = UnsupportedOperationException.class;
    private static final Class<? extends RuntimeException> ARITHMETIC = ArithmeticException.class;

    private static String promise = "";
    private static int checks = 0;
    private static int wrong = 0;

    public static void main(String[] args) {
        promises1To5();
        promises6To10();
        promises11To15();
        promises16To21();
        promises22To30();
        promises31To35();
        promises36To42();
        promises43To45();
        System.out.println(checks + " checks, " + wrong + " wrong");
        if (wrong != 0) {
            System.exit(1);
        }
    }

    private static void promises1To5() {
        newObject();
        build();
        buildRefusedInOrder();
        tear();
        halve();
        lease();
    }

    private static void promises6To10() {
        climb();
        climbTollAndDust();
        levy();
        levyOfAPoorGiant();
        take();
        takeRefused();
        free();
        day();
        dayOfAPoorGiant();
    }

    private static void promises11To15() {
        giantOf();
        landingOf();
        stairOf();
        between();
        breaths();
    }

    private static void promises16To21() {
        steps();
        way();
        longestWay();
        first();
        reach();
    }

    private static void promises22To30() {
        dustIn();
        rentsIn();
        levyOf();
        bestLevy();
        canTake();
        turn();
        ranked();
    }

    private static void promises31To35() {
        isTold();
        append();
        run();
        runOfAllOrders();
        runAllOrNone();
        faultPosition();
        reason();
    }

    private static void promises36To42() {
        tellGiant();
        tellStair();
        tellLandings();
        character();
        account();
        accountOfBoth();
        meanSteps();
        leasedShare();
    }

    private static void promises43To45() {
        undo();
        undoKeepsWhatIsNoChange();
        save();
        restore();
    }

    private static void newObject() {
        promise = "1";
        GiantStairs x = new GiantStairs();
        same(x.account(0), 0);
        same(x.account(1), 6);
        for (int what = 2; what < 14; what++) {
            same(x.account(what), 0);
        }
        for (int giant = 0; giant < 2; giant++) {
            same(x.giantOf(giant, 0), 30);
            same(x.giantOf(giant, 1), giant);
            same(x.giantOf(giant, 2), 1);
            same(x.landingOf(giant, 0), giant);
            same(x.landingOf(giant, 2), giant);
        }
        same(x.landingOf(7, 0), 2);
        same(x.landingOf(7, 2), -1);
        same(x.turn(), 0);
        same(x.isTold(), true);
    }

    private static void build() {
        promise = "2";
        GiantStairs x = new GiantStairs();
        same(x.build(0, 1, 1), 0);
        same(x.build(7, 2, 40), 1);
        same(x.stairOf(1, 0), 2);
        same(x.stairOf(1, 1), 7);
        same(x.stairOf(1, 2), 40);
        same(x.stairOf(1, 3), 0);
        refused(x, () -> x.build(8, -1, 0), 2, 8);
        refused(x, () -> x.build(-1, 8, 0), 2, -1);
        refused(x, () -> x.build(0, 8, 0), 2, 8);
        refused(x, () -> x.build(0, Integer.MIN_VALUE, 1), 2, Integer.MIN_VALUE);
        refused(x, () -> x.build(3, 3, 0), 3, 0);
        refused(x, () -> x.build(3, 3, 41), 3, 41);
        refused(x, () -> x.build(3, 3, 40), 4, 3);
        refused(x, () -> x.build(2, 7, 5), 5, 1);
        same(x.account(0), 2);
        same(x.account(13), 2);
    }

    private static void buildRefusedInOrder() {
        promise = "2";
        GiantStairs x = new GiantStairs();
        for (int other = 1; other < 8; other++) {
            x.build(0, other, other);
        }
        for (int other = 2; other < 5; other++) {
            x.build(1, other, other);
        }
        same(x.account(0), 10);
        refused(x, () -> x.build(1, 5, 3), 1, 10);
        refused(x, () -> x.build(4, 1, 3), 5, 9);
        refused(x, () -> x.build(5, 5, 3), 4, 5);
        x.tear(0);
        same(x.build(1, 5, 3), 9);
    }

    private static void tear() {
        promise = "3";
        GiantStairs x = new GiantStairs();
        refused(x, () -> x.tear(0), 2, 0);
        x.build(0, 1, 3);
        x.build(0, 2, 4);
        x.build(0, 3, 5);
        x.lease(0, 0, 3);
        x.lease(1, 1, 7);
        refused(x, () -> x.tear(3), 2, 3);
        refused(x, () -> x.tear(-1), 2, -1);
        same(x.tear(0), 2);
        same(x.stairOf(0, 2), 4);
        same(x.stairOf(0, 6), 7);
        same(x.stairOf(1, 2), 5);
        thrown(() -> x.stairOf(2, 0), INDEX);
        same(x.giantOf(0, 4), 0);
        same(x.tear(1), 1);
        same(x.tear(0), 0);
        same(x.build(0, 1, 3), 0);
        same(x.stairOf(0, 6), 0);
    }

    private static void halve() {
        promise = "4";
        GiantStairs x = new GiantStairs();
        x.build(0, 1, 39);
        same(x.halve(0), 20);
        same(x.halve(0), 10);
        same(x.halve(0), 5);
        same(x.stairOf(0, 4), 3);
        refused(x, () -> x.halve(0), 6, 5);
        x.build(0, 2, 2);
        same(x.halve(1), 1);
        refused(x, () -> x.halve(1), 6, 1);
        refused(x, () -> x.halve(2), 2, 2);
        refused(x, () -> x.halve(-5), 2, -5);
        same(x.account(11), 4);
        x.tear(0);
        same(x.account(11), 4);
    }

    private static void lease() {
        promise = "5";
        GiantStairs x = new GiantStairs();
        x.build(0, 1, 16);
        x.build(0, 2, 7);
        refused(x, () -> x.lease(2, 2, 0), 2, 2);
        refused(x, () -> x.lease(-1, 0, 1), 2, -1);
        refused(x, () -> x.lease(0, 2, 0), 2, 2);
        refused(x, () -> x.lease(0, 0, 0), 3, 0);
        refused(x, () -> x.lease(0, 0, 10), 3, 10);
        same(x.lease(1, 0, 9), 3);
        same(x.lease(0, 1, 1), 1);
        same(x.giantOf(1, 0), 30);
        refused(x, () -> x.lease(1, 0, 10), 3, 10);
        refused(x, () -> x.lease(1, 0, 2), 7, 9);
        x.day();
        refused(x, () -> x.lease(0, 0, 2), 7, 8);
        same(x.lease(1, 1, 2), 1);
    }

    private static void climb() {
        promise = "6";
        GiantStairs x = new GiantStairs();
        x.build(0, 2, 9);
        x.build(1, 2, 16);
        refused(x, () -> x.climb(2, 9), 2, 2);
        refused(x, () -> x.climb(0, 2), 2, 2);
        refused(x, () -> x.climb(0, -1), 2, -1);
        refused(x, () -> x.climb(0, 1), 8, 0);
        refused(x, () -> x.climb(1, 0), 8, 1);
        refused(x, () -> x.climb(0, 0), 9, 2);
        x.take(2);
        same(x.climb(0, 0), 18);
        same(x.giantOf(0, 1), 2);
        same(x.giantOf(0, 0), 25);
        x.lease(0, 0, 2);
        same(x.climb(0, 0), 9);
        same(x.giantOf(0, 1), 0);
        same(x.giantOf(0, 3), 27);
        same(x.climb(1, 1), 32);
        same(x.climb(1, 0), 18);
        same(x.landingOf(0, 2), 0);
        same(x.account(9), 77);
    }

    private static void climbTollAndDust() {
        promise = "6";
        GiantStairs x = new GiantStairs();
        x.build(0, 1, 4);
        x.day();
        x.day();
        x.day();
        same(x.climb(0, 0), 8);
        same(x.stairOf(0, 3), 2);
        same(x.giantOf(0, 0), 29);
        same(x.giantOf(1, 0), 31);
        same(x.giantOf(1, 6), 1);
        same(x.climb(0, 0), 8);
        same(x.stairOf(0, 3), 1);
        same(x.giantOf(0, 0), 29);
        same(x.climb(0, 0), 8);
        same(x.stairOf(0, 3), 1);
        GiantStairs poor = withoutCoins();
        same(poor.giantOf(0, 0), 0);
        poor.climb(0, 0);
        same(poor.giantOf(0, 0), 0);
        same(poor.giantOf(1, 0), 30);
        same(poor.giantOf(1, 6), 0);
        poor.climb(1, 0);
        same(poor.giantOf(0, 0), 1);
        poor.climb(0, 0);
        poor.climb(0, 0);
        same(poor.giantOf(0, 0), 0);
        same(poor.giantOf(1, 6), 1);
        poor.undo();
        same(poor.giantOf(1, 6), 0);
    }

    /** The giant 0 has given all coins as rents of the staircase 0 between the landings 0 and 1. */
    private static GiantStairs withoutCoins() {
        GiantStairs x = new GiantStairs();
        x.build(0, 1, 40);
        x.lease(0, 0, 9);
        for (int day = 0; day < 5; day++) {
            x.day();
        }
        return x;
    }

    private static void levy() {
        promise = "7";
        GiantStairs x = new GiantStairs();
        x.build(0, 2, 9);
        x.build(3, 2, 20);
        refused(x, () -> x.levy(3, 9), 2, 3);
        refused(x, () -> x.levy(0, 9), 2, 9);
        refused(x, () -> x.levy(1, 0), 10, 0);
        refused(x, () -> x.levy(0, 1), 10, 1);
        refused(x, () -> x.levy(0, 0), 11, 9);
        x.day();
        same(x.levy(0, 0), 0);
        same(x.stairOf(0, 3), 0);
        for (int day = 0; day < 5; day++) {
            x.day();
        }
        same(x.stairOf(0, 3), 10);
        same(x.levy(0, 0), 2);
        same(x.giantOf(0, 0), 32);
        same(x.giantOf(1, 0), 28);
        same(x.account(7), 2);
        same(x.stairOf(0, 3), 0);
        same(x.stairOf(1, 3), 20);
    }

    private static void levyOfAPoorGiant() {
        promise = "7";
        GiantStairs x = withoutCoins();
        same(x.levy(1, 0), 0);
        same(x.stairOf(0, 3), 0);
        x.build(1, 2, 20);
        x.take(2);
        x.climb(1, 0);
        for (int day = 0; day < 3; day++) {
            x.day();
        }
        same(x.giantOf(0, 0), 1);
        same(x.levy(1, 0), 1);
        same(x.giantOf(0, 0), 0);
        same(x.giantOf(1, 0), 25);
    }

    private static void take() {
        promise = "8";
        GiantStairs x = new GiantStairs();
        x.build(0, 2, 3);
        x.build(2, 3, 3);
        x.build(3, 1, 3);
        same(x.take(2), 25);
        same(x.take(3), 20);
        same(x.account(3), 10);
        same(x.account(10), 2);
        same(x.giantOf(0, 2), 3);
        x.day();
        same(x.take(3), 20);
        same(x.giantOf(0, 0), 25);
        same(x.account(3), 15);
        same(x.landingOf(3, 0), 1);
        same(x.turn(), 1);
        same(x.isTold(), true);
    }

    private static void takeRefused() {
        promise = "8";
        GiantStairs x = new GiantStairs();
        x.build(0, 1, 3);
        x.build(0, 2, 3);
        refused(x, () -> x.take(8), 2, 8);
        refused(x, () -> x.take(-1), 2, -1);
        refused(x, () -> x.take(0), 13, 0);
        refused(x, () -> x.take(1), 12, 1);
        refused(x, () -> x.take(3), 14, 1);
        x.climb(1, 0);
        x.climb(0, 0);
        x.day();
        refused(x, () -> x.take(0), 12, 1);
        refused(x, () -> x.take(2), 14, 1);
        refused(x, () -> x.take(1), 13, 1);
        GiantStairs poor = withoutCoins();
        poor.day();
        poor.build(0, 2, 3);
        refused(poor, () -> poor.take(2), 15, 0);
        refused(poor, () -> poor.take(3), 14, 1);
        GiantStairs other = new GiantStairs();
        other.build(1, 2, 40);
        other.build(2, 0, 40);
        other.lease(0, 0, 3);
        other.build(0, 3, 1);
        other.lease(0, 2, 3);
        other.day();
        other.take(2);
        other.day();
        other.day();
        other.day();
        same(other.giantOf(0, 0), 9);
        refused(other, () -> other.take(2), 15, 9);
        same(other.take(3), 4);
    }

    private static void free() {
        promise = "9";
        GiantStairs x = new GiantStairs();
        x.build(0, 2, 3);
        x.take(2);
        refused(x, () -> x.free(2, 8), 2, 2);
        refused(x, () -> x.free(0, 8), 2, 8);
        refused(x, () -> x.free(0, 3), 13, 2);
        refused(x, () -> x.free(0, 1), 13, 1);
        refused(x, () -> x.free(1, 0), 13, 0);
        refused(x, () -> x.free(0, 0), 12, 0);
        x.day();
        same(x.free(0, 2), 1);
        same(x.landingOf(2, 0), 2);
        same(x.giantOf(0, 0), 25);
        x.build(0, 1, 3);
        x.climb(0, 1);
        same(x.free(0, 0), 0);
        refused(x, () -> x.free(1, 1), 12, 0);
    }

    private static void day() {
        promise = "10";
        GiantStairs x = new GiantStairs();
        same(x.day(), 0);
        same(x.turn(), 1);
        x.build(0, 1, 15);
        x.build(0, 2, 4);
        x.lease(0, 0, 2);
        x.lease(1, 1, 9);
        same(x.day(), 3);
        same(x.turn(), 0);
        same(x.stairOf(0, 3), 4);
        same(x.stairOf(1, 3), 1);
        same(x.stairOf(0, 6), 1);
        same(x.giantOf(0, 0), 28);
        same(x.giantOf(0, 5), 2);
        same(x.account(3), 3);
        x.halve(0);
        same(x.day(), 3);
        same(x.stairOf(0, 5), -1);
        same(x.stairOf(0, 6), 0);
        same(x.day(), 1);
        for (int day = 0; day < 8; day++) {
            x.day();
        }
        same(x.stairOf(0, 3), 20);
        same(x.account(2), 12);
        same(x.account(6), 4 + 9);
    }

    private static void dayOfAPoorGiant() {
        promise = "10";
        GiantStairs x = new GiantStairs();
        x.build(0, 1, 40);
        x.build(0, 2, 8);
        x.build(0, 3, 40);
        for (int stair = 0; stair < 3; stair++) {
            x.lease(1, stair, 9);
        }
        same(x.day(), 14);
        same(x.day(), 14);
        same(x.giantOf(1, 0), 2);
        same(x.day(), 2);
        same(x.stairOf(0, 5), -1);
        same(x.stairOf(1, 6), 6);
        same(x.stairOf(2, 6), 0);
        same(x.giantOf(1, 0), 0);
        same(x.giantOf(1, 4), 1);
        same(x.day(), 0);
        same(x.giantOf(1, 4), 0);
    }

    private static void giantOf() {
        promise = "11";
        GiantStairs x = new GiantStairs();
        x.build(0, 1, 8);
        x.lease(0, 0, 5);
        x.day();
        x.climb(0, 0);
        x.climb(1, 0);
        int[] first = {28 + 1 - 1, 1, 1, 8, 1, 2, 1};
        int[] second = {30, 0, 1, 16, 0, 0, 1};
        for (int what = 0; what < 7; what++) {
            same(x.giantOf(0, what), first[what]);
            same(x.giantOf(1, what), second[what]);
        }
        thrown(() -> x.giantOf(0, 7), ARGUMENT);
        thrown(() -> x.giantOf(1, -1), ARGUMENT);
        thrown(() -> x.giantOf(2, 7), INDEX);
        thrown(() -> x.giantOf(-1, 0), INDEX);
    }

    private static void landingOf() {
        promise = "12";
        GiantStairs x = new GiantStairs();
        x.build(0, 1, 8);
        x.build(7, 0, 8);
        same(x.landingOf(0, 1), 2);
        same(x.landingOf(0, 3), 1 << 1 | 1 << 7);
        same(x.landingOf(7, 3), 1);
        same(x.landingOf(3, 1), 0);
        same(x.landingOf(3, 3), 0);
        same(x.landingOf(1, 2), 1);
        x.climb(0, 0);
        same(x.landingOf(0, 2), -1);
        same(x.landingOf(1, 2), 0);
        same(x.landingOf(1, 0), 1);
        thrown(() -> x.landingOf(0, 4), ARGUMENT);
        thrown(() -> x.landingOf(0, -1), ARGUMENT);
        thrown(() -> x.landingOf(8, 4), INDEX);
        thrown(() -> x.landingOf(-1, 0), INDEX);
    }

    private static void stairOf() {
        promise = "13";
        GiantStairs x = new GiantStairs();
        x.build(5, 3, 31);
        x.halve(0);
        x.lease(1, 0, 4);
        x.day();
        int[] due = {3, 5, 16, 4, 1, 1, 3, 3};
        for (int what = 0; what < 8; what++) {
            same(x.stairOf(0, what), due[what]);
        }
        x.build(0, 1, 7);
        same(x.stairOf(1, 5), -1);
        same(x.stairOf(1, 6), 0);
        same(x.stairOf(1, 7), 1);
        thrown(() -> x.stairOf(0, 8), ARGUMENT);
        thrown(() -> x.stairOf(0, -1), ARGUMENT);
        thrown(() -> x.stairOf(2, 8), INDEX);
        thrown(() -> x.stairOf(-1, 0), INDEX);
    }

    private static void between() {
        promise = "14";
        GiantStairs x = new GiantStairs();
        x.build(5, 3, 31);
        x.build(3, 4, 1);
        same(x.between(3, 5), 0);
        same(x.between(4, 3), 1);
        thrown(() -> x.between(4, 5), MISSING);
        thrown(() -> x.between(3, 3), MISSING);
        thrown(() -> x.between(8, 3), INDEX);
        thrown(() -> x.between(3, -1), INDEX);
    }

    private static void breaths() {
        promise = "15";
        GiantStairs x = new GiantStairs();
        x.build(5, 3, 31);
        same(x.breaths(0, 0), 62);
        x.lease(1, 0, 1);
        same(x.breaths(0, 0), 62);
        same(x.breaths(1, 0), 31);
        x.day();
        same(x.breaths(1, 0), 62);
        thrown(() -> x.breaths(2, 0), INDEX);
        thrown(() -> x.breaths(-1, 0), INDEX);
        thrown(() -> x.breaths(0, 1), INDEX);
        thrown(() -> x.breaths(0, -1), INDEX);
    }

    private static void steps() {
        GiantStairs x = new GiantStairs();
        x.build(0, 7, 40);
        x.build(0, 2, 9);
        x.build(2, 3, 9);
        x.build(3, 7, 9);
        x.build(7, 1, 40);
        x.lease(0, 0, 9);
        int[] due = {0, 67, 9, 18, -1, -1, -1, 27};
        for (int other = 0; other < 8; other++) {
            int goal = other;
            promise = "16";
            number(() -> x.steps(0, goal), due[goal]);
            number(() -> x.steps(goal, 0), due[goal]);
            promise = "17";
            number(() -> x.stepsAgain(0, goal), due[goal]);
            number(() -> x.stepsAgain(goal, 0), due[goal]);
        }
        promise = "16";
        same(x.steps(5, 5), 0);
        thrown(() -> x.steps(8, 0), INDEX);
        thrown(() -> x.steps(0, -1), INDEX);
        promise = "17";
        same(x.stepsAgain(5, 5), 0);
        thrown(() -> x.stepsAgain(-1, 0), INDEX);
        thrown(() -> x.stepsAgain(0, 8), INDEX);
    }

    private static void way() {
        GiantStairs x = new GiantStairs();
        x.build(0, 2, 5);
        x.build(2, 3, 5);
        x.build(0, 3, 19);
        x.build(3, 4, 1);
        x.build(4, 1, 1);
        x.take(2);
        x.take(3);
        x.lease(0, 2, 9);
        ways(x, new int[] {0, -1, 10, 19, -1, -1, -1, -1});
        x.take(4);
        ways(x, new int[] {0, 23, 10, 19, 21, -1, -1, -1});
        x.free(0, 3);
        ways(x, new int[] {0, -1, 10, -1, -1, -1, -1, -1});
        x.tear(2);
        promise = "18";
        same(x.way(1, 4), 2);
        same(x.way(1, 1), 0);
        thrown(() -> x.way(2, 0), INDEX);
        thrown(() -> x.way(0, 8), INDEX);
        promise = "19";
        same(x.wayAgain(1, 4), 2);
        same(x.wayAgain(1, 1), 0);
        thrown(() -> x.wayAgain(-1, 0), INDEX);
        thrown(() -> x.wayAgain(0, -1), INDEX);
    }

    /** The way over all landings, whose last staircase has the lowest number. */
    private static void longestWay() {
        GiantStairs x = new GiantStairs();
        int[] chain = {1, 7, 6, 5, 4, 3, 2, 0};
        for (int stair = 0; stair < 7; stair++) {
            x.build(chain[stair], chain[stair + 1], stair + 1);
        }
        promise = "8";
        for (int landing = 2; landing < 8; landing++) {
            same(x.take(landing), 35 - 5 * landing);
        }
        ways(x, new int[] {0, 56, 14, 26, 36, 44, 50, 54});
        promise = "16";
        same(x.steps(0, 1), 28);
        promise = "17";
        same(x.stepsAgain(1, 0), 28);
        promise = "20";
        same(x.first(0, 1), 6);
        same(x.first(1, 0), 0);
        promise = "31";
        same(x.isTold(), true);
    }

    private static void ways(GiantStairs x, int[] due) {
        for (int landing = 0; landing < 8; landing++) {
            int goal = landing;
            promise = "18";
            number(() -> x.way(0, goal), due[goal]);
            promise = "19";
            number(() -> x.wayAgain(0, goal), due[goal]);
        }
    }

    private static void first() {
        promise = "20";
        GiantStairs x = new GiantStairs();
        x.build(0, 7, 4);
        x.build(0, 3, 10);
        x.build(0, 2, 5);
        x.build(2, 3, 5);
        thrown(() -> x.first(0, 3), MISSING);
        x.take(2);
        x.take(3);
        same(x.first(0, 3), 1);
        same(x.first(0, 2), 2);
        x.lease(0, 3, 2);
        same(x.first(0, 3), 2);
        thrown(() -> x.first(0, 0), MISSING);
        thrown(() -> x.first(0, 7), MISSING);
        thrown(() -> x.first(0, 1), MISSING);
        thrown(() -> x.first(1, 1), MISSING);
        thrown(() -> x.first(2, 0), INDEX);
        thrown(() -> x.first(0, 8), INDEX);
        thrown(() -> x.first(0, -1), INDEX);
    }

    private static void reach() {
        promise = "21";
        GiantStairs x = new GiantStairs();
        same(x.reach(0), 1);
        same(x.reach(1), 2);
        x.build(0, 2, 4);
        x.build(2, 3, 4);
        x.build(3, 1, 4);
        x.take(2);
        same(x.reach(0), 1 | 4);
        x.take(3);
        same(x.reach(0), 15);
        same(x.reach(1), 15);
        thrown(() -> x.reach(2), INDEX);
        thrown(() -> x.reach(-1), INDEX);
    }

    private static void dustIn() {
        GiantStairs x = new GiantStairs();
        x.build(0, 1, 9);
        x.build(0, 2, 40);
        x.day();
        int[] due = {2, 4, 6, 8, 10, 12, 14, 16, 18, 20, 20};
        for (int days = 0; days < due.length; days++) {
            promise = "22";
            same(x.dustIn(0, days), due[days]);
            promise = "23";
            same(x.dustAgain(0, days), due[days]);
        }
        promise = "22";
        same(x.dustIn(1, 40), 20);
        same(x.stairOf(1, 3), 9);
        thrown(() -> x.dustIn(0, 41), ARGUMENT);
        thrown(() -> x.dustIn(0, -1), ARGUMENT);
        thrown(() -> x.dustIn(2, 41), INDEX);
        thrown(() -> x.dustIn(-1, 0), INDEX);
        promise = "23";
        same(x.dustAgain(1, 40), 20);
        thrown(() -> x.dustAgain(0, 41), ARGUMENT);
        thrown(() -> x.dustAgain(0, -1), ARGUMENT);
        thrown(() -> x.dustAgain(2, 41), INDEX);
        thrown(() -> x.dustAgain(-1, 0), INDEX);
    }

    private static void rentsIn() {
        promise = "24";
        GiantStairs x = new GiantStairs();
        same(x.rentsIn(40), 0);
        x.build(0, 1, 40);
        x.build(0, 2, 8);
        x.lease(1, 0, 9);
        x.lease(1, 1, 3);
        same(x.rentsIn(0), 0);
        same(x.rentsIn(1), 8);
        same(x.rentsIn(3), 24);
        same(x.rentsIn(4), 30);
        same(x.rentsIn(40), 30);
        same(x.account(2), 0);
        same(x.giantOf(1, 0), 30);
        same(x.stairOf(0, 6), 9);
        same(x.turn(), 0);
        thrown(() -> x.rentsIn(41), ARGUMENT);
        thrown(() -> x.rentsIn(-1), ARGUMENT);
    }

    private static void levyOf() {
        promise = "25";
        GiantStairs x = withoutCoins();
        x.build(1, 2, 14);
        x.build(2, 3, 14);
        for (int day = 0; day < 3; day++) {
            x.day();
        }
        same(x.levyOf(0, 0), 5);
        same(x.levyOf(1, 0), 0);
        same(x.levyOf(1, 1), 0);
        same(x.levyOf(0, 1), 0);
        same(x.levyOf(0, 2), 0);
        x.levy(0, 0);
        same(x.levyOf(1, 1), 2);
        same(x.levyOf(0, 0), 0);
        same(x.stairOf(1, 3), 9);
        thrown(() -> x.levyOf(2, 0), INDEX);
        thrown(() -> x.levyOf(0, 3), INDEX);
        thrown(() -> x.levyOf(0, -1), INDEX);
        thrown(() -> x.reason(0, true), MISSING);
    }

    private static void bestLevy() {
        promise = "26";
        GiantStairs x = new GiantStairs();
        x.build(2, 3, 40);
        x.build(0, 2, 5);
        x.build(0, 3, 14);
        x.build(0, 1, 14);
        x.day();
        thrown(() -> x.bestLevy(0), MISSING);
        x.day();
        same(x.bestLevy(0), 1);
        x.day();
        same(x.bestLevy(0), 2);
        same(x.bestLevy(1), 3);
        x.levy(0, 2);
        same(x.bestLevy(0), 3);
        GiantStairs poor = withoutCoins();
        same(poor.bestLevy(0), 0);
        thrown(() -> poor.bestLevy(1), MISSING);
        thrown(() -> x.bestLevy(2), INDEX);
        thrown(() -> x.bestLevy(-1), INDEX);
    }

    private static void canTake() {
        GiantStairs x = new GiantStairs();
        promise = "28";
        same(x.takable(), 0);
        x.build(0, 1, 3);
        x.build(0, 2, 3);
        x.build(2, 3, 3);
        x.build(1, 7, 3);
        boolean[] due = {false, false, true, false, false, false, false, false};
        for (int landing = 0; landing < 8; landing++) {
            promise = "27";
            same(x.canTake(landing), due[landing]);
        }
        promise = "28";
        same(x.takable(), 4);
        x.day();
        same(x.takable(), 1 << 7);
        promise = "27";
        same(x.canTake(7), true);
        same(x.canTake(2), false);
        thrown(() -> x.canTake(8), INDEX);
        thrown(() -> x.canTake(-1), INDEX);
        thrown(() -> x.reason(0, true), MISSING);
        GiantStairs poor = withoutCoins();
        poor.build(0, 2, 1);
        poor.build(1, 3, 1);
        same(poor.canTake(3), true);
        poor.day();
        same(poor.canTake(2), false);
        promise = "28";
        same(poor.takable(), 0);
        x.climb(0, 0);
        same(x.takable(), 1 | 1 << 7);
    }

    private static void turn() {
        promise = "29";
        GiantStairs x = new GiantStairs();
        same(x.turn(), 0);
        x.day();
        same(x.turn(), 1);
        x.build(1, 2, 3);
        x.take(2);
        same(x.turn(), 1);
        x.day();
        same(x.turn(), 0);
        x.undo();
        same(x.turn(), 1);
    }

    private static void ranked() {
        promise = "30";
        GiantStairs x = new GiantStairs();
        x.build(0, 1, 8);
        x.day();
        x.build(0, 2, 15);
        x.build(0, 3, 9);
        x.build(0, 4, 16);
        x.day();
        x.lease(0, 0, 1);
        x.lease(0, 2, 9);
        int[][] due = {{3, 1, 2, 0}, {0, 1, 3, 2}, {2, 0, 1, 3}, {3, 0, 1, 2}};
        for (int kind = 0; kind < 4; kind++) {
            for (int place = 0; place < 4; place++) {
                same(x.ranked(kind, place), due[kind][place]);
            }
        }
        thrown(() -> x.ranked(4, 9), ARGUMENT);
        thrown(() -> x.ranked(-1, 0), ARGUMENT);
        thrown(() -> x.ranked(0, 4), MISSING);
        thrown(() -> x.ranked(3, -1), MISSING);
    }

    private static void isTold() {
        promise = "31";
        GiantStairs x = new GiantStairs();
        same(x.isTold(), true);
        type(x, "build 02 9;build 21 8;take 2;climb 0 0;lease 1 1 9;day;day");
        same(x.run(), 7);
        same(x.isTold(), true);
        x.levy(0, 0);
        x.climb(0, 1);
        same(x.isTold(), true);
        same(withoutCoins().isTold(), true);
    }

    private static void append() {
        promise = "32";
        GiantStairs x = new GiantStairs();
        thrown(() -> x.append((char) 31), ARGUMENT);
        thrown(() -> x.append((char) 127), ARGUMENT);
        thrown(() -> x.append((char) 233), ARGUMENT);
        same(x.append(' '), 1);
        same(x.append('~'), 2);
        for (int length = 3; length <= 60; length++) {
            same(x.append('x'), length);
        }
        thrown(() -> x.append('x'), STATE);
        thrown(() -> x.append((char) 31), ARGUMENT);
        same(x.account(12), 60);
        thrown(x::run, ARGUMENT);
        same(x.append('x'), 1);
    }

    private static void run() {
        promise = "33";
        GiantStairs x = new GiantStairs();
        type(x, "build 03 40;halve 0;build 13 8");
        same(x.run(), 3);
        same(x.account(12), 0);
        same(x.account(13), 1);
        same(x.stairOf(0, 2), 20);
        same(x.stairOf(1, 2), 8);
        same(x.undo(), 0);
        same(x.account(0), 0);
        thrown(x::run, ARGUMENT);
        type(x, "day;");
        thrown(x::run, ARGUMENT);
        same(x.account(12), 0);
        same(x.account(2), 0);
        same(x.account(13), 0);
        type(x, "day;day;day;day;day;day;day;day;day;day;day;day;day;day;day");
        same(x.run(), 15);
        same(x.account(2), 15);
        type(x, "day;day;day;day;day;day;day;day;day;day;day;day;day;day;day;");
        thrown(x::run, ARGUMENT);
        same(x.faultPosition(), 60);
    }

    private static void runOfAllOrders() {
        promise = "33";
        GiantStairs x = new GiantStairs();
        type(x, "build 02 9;build 13 08;build 20 7");
        refusedOrder(x, 2, 5, 0);
        type(x, "build 02 9;build 13 08;take 2;climb 0 0;lease 1 1 3;day");
        same(x.run(), 6);
        same(x.giantOf(0, 3), 18);
        same(x.account(6), 2);
        type(x, "tear 1;halve 0;day;day;day;levy 0 0;free 0 0");
        same(x.run(), 7);
        same(x.account(0), 1);
        same(x.stairOf(0, 2), 5);
        same(x.stairOf(0, 3), 0);
        same(x.account(7), 2);
        same(x.landingOf(0, 0), 2);
        type(x, "build 14 5;build 13 20;day;take 4;tear 0;lease 0 1 5;day");
        same(x.run(), 7);
        same(x.stairOf(0, 2), 5);
        same(x.stairOf(1, 2), 20);
        same(x.stairOf(1, 5), 0);
        same(x.stairOf(1, 6), 4);
        same(x.landingOf(4, 0), 1);
        type(x, "levy 1 1;climb 1 0;free 1 1");
        same(x.run(), 3);
        same(x.stairOf(1, 3), 0);
        same(x.giantOf(1, 1), 4);
        same(x.landingOf(1, 0), 2);
    }

    private static void runAllOrNone() {
        promise = "33";
        GiantStairs x = new GiantStairs();
        x.build(0, 2, 9);
        for (int day = 0; day < 8; day++) {
            x.day();
        }
        type(x, "build 03 40;take 2;day;climb 0 0;levy 0 1;take 2");
        refusedOrder(x, 5, 12, 0);
        same(x.account(0), 1);
        same(x.account(2), 8);
        same(x.account(3), 0);
        same(x.account(12), 0);
        same(x.account(13), 8);
        same(x.giantOf(0, 1), 0);
        same(x.landingOf(2, 0), 2);
        type(x, "tear 9");
        refusedOrder(x, 0, 2, 9);
        type(x, "build 45 00");
        refusedOrder(x, 0, 3, 0);
        type(x, "day;build 98 41");
        refusedOrder(x, 1, 2, 9);
        type(x, "halve 1");
        refusedOrder(x, 0, 2, 1);
        type(x, "lease 0 0 0");
        refusedOrder(x, 0, 3, 0);
        type(x, "climb 1 0");
        refusedOrder(x, 0, 8, 1);
        type(x, "levy 1 0");
        refusedOrder(x, 0, 10, 0);
        type(x, "take 7");
        refusedOrder(x, 0, 14, 1);
        type(x, "free 0 2");
        refusedOrder(x, 0, 13, 2);
        for (int count = 7; count >= 0; count--) {
            same(x.undo(), count);
        }
        same(x.account(2), 0);
    }

    private static void refusedOrder(GiantStairs x, int order, int number, int detail) {
        thrown(x::run, REFUSED);
        same(x.reason(0, false), 16);
        same(x.reason(0, true), order);
        same(x.reason(1, false), number);
        same(x.reason(1, true), detail);
        same(x.faultPosition(), -1);
    }

    private static void faultPosition() {
        promise = "34";
        GiantStairs x = new GiantStairs();
        same(x.faultPosition(), -1);
        fault(x, "", 0);
        fault(x, " day", 0);
        fault(x, ";", 0);
        fault(x, "x", 0);
        fault(x, "dx", 1);
        fault(x, "l", 1);
        fault(x, "da", 2);
        fault(x, "dax", 2);
        fault(x, "day ", 3);
        fault(x, "day;", 4);
        fault(x, "day;;", 4);
        fault(x, "day;Day", 4);
        fault(x, "lex", 2);
        fault(x, "lea", 3);
        fault(x, "levx 0 0", 3);
        fault(x, "lease 0 1", 9);
        fault(x, "lease 0 1 10", 11);
        fault(x, "tabe", 2);
        fault(x, "teke", 2);
        fault(x, "tear  1", 5);
        fault(x, "take 10", 6);
        fault(x, "free 01", 6);
        fault(x, "climb 0", 7);
        fault(x, "halve -1", 6);
        fault(x, "build 0 3", 7);
        fault(x, "build 03", 8);
        fault(x, "build 03 ", 9);
        fault(x, "build 03 1;", 11);
        fault(x, "build 03 123", 11);
        fault(x, "build 03 12 ", 11);
        type(x, "build 03 12;day");
        same(x.run(), 2);
        same(x.faultPosition(), -1);
        fault(x, "bu", 2);
        x.undo();
        same(x.faultPosition(), 2);
        type(x, "tear 0");
        same(x.faultPosition(), 2);
        thrown(x::run, REFUSED);
        same(x.faultPosition(), -1);
    }

    private static void fault(GiantStairs x, String text, int position) {
        type(x, text);
        thrown(x::run, ARGUMENT);
        same(x.faultPosition(), position);
        same(x.account(12), 0);
    }

    private static void reason() {
        promise = "35";
        GiantStairs x = new GiantStairs();
        thrown(() -> x.reason(0, false), MISSING);
        thrown(() -> x.reason(1, true), MISSING);
        thrown(() -> x.reason(2, true), ARGUMENT);
        thrown(() -> x.reason(-1, true), ARGUMENT);
        refused(x, () -> x.tear(Integer.MAX_VALUE), 2, Integer.MAX_VALUE);
        type(x, "day;day;tear 7");
        refusedOrder(x, 2, 2, 7);
        type(x, "d");
        thrown(x::run, ARGUMENT);
        same(x.reason(0, true), 2);
        x.day();
        x.undo();
        same(x.reason(1, true), 7);
        refused(x, () -> x.take(0), 13, 0);
    }

    private static void tellGiant() {
        promise = "36";
        GiantStairs x = new GiantStairs();
        line(x, x.tellGiant(0), "0@0$30!");
        line(x, x.tellGiant(1), "1@1$30");
        x.build(0, 1, 3);
        x.climb(0, 0);
        x.day();
        line(x, x.tellGiant(0), "0@1$29");
        line(x, x.tellGiant(1), "1@1$31!");
        thrown(() -> x.tellGiant(2), INDEX);
        thrown(() -> x.tellGiant(-1), INDEX);
        line(x, 7, "1@1$31!");
    }

    private static void tellStair() {
        promise = "37";
        GiantStairs x = new GiantStairs();
        x.build(1, 0, 5);
        x.build(6, 2, 5);
        x.build(3, 0, 40);
        line(x, x.tellStair(0), "0:01^5~0");
        x.lease(1, 2, 6);
        x.day();
        x.day();
        line(x, x.tellStair(2), "2:03^40~18=1/4");
        line(x, x.tellStair(1), "1:26^5~4");
        thrown(() -> x.tellStair(3), INDEX);
        thrown(() -> x.tellStair(-1), INDEX);
        line(x, 8, "1:26^5~4");
    }

    private static void tellLandings() {
        promise = "38";
        GiantStairs x = new GiantStairs();
        line(x, x.tellLandings(), "01......");
        x.build(0, 7, 5);
        x.build(1, 3, 5);
        x.take(7);
        x.day();
        x.take(3);
        line(x, x.tellLandings(), "01.1...0");
        x.free(0, 7);
        line(x, x.tellLandings(), "01.1....");
    }

    private static void character() {
        promise = "39";
        GiantStairs x = new GiantStairs();
        thrown(() -> x.character(0), INDEX);
        thrown(() -> x.character(-1), INDEX);
        same(x.tellGiant(1), 6);
        same(x.character(0), '1');
        same(x.character(5), '0');
        thrown(() -> x.character(6), INDEX);
        thrown(() -> x.character(-1), INDEX);
        thrown(() -> x.character(Integer.MAX_VALUE), INDEX);
    }

    private static void account() {
        promise = "40";
        GiantStairs x = new GiantStairs();
        type(x, "build 01 16;build 02 10;take 2;halve 1;lease 1 0 3;day");
        x.run();
        x.day();
        x.day();
        x.climb(0, 1);
        x.climb(1, 0);
        x.levy(1, 0);
        x.lease(0, 1, 2);
        x.append('d');
        int[] due = {2, 5, 3, 5 + 9, 1, 3, 9, 1, 1, 10 + 32, 1, 1, 1, 7};
        for (int what = 0; what < 14; what++) {
            same(x.account(what), due[what]);
        }
        thrown(() -> x.account(14), ARGUMENT);
        thrown(() -> x.account(-1), ARGUMENT);
    }

    private static void accountOfBoth() {
        promise = "40";
        GiantStairs x = new GiantStairs();
        x.build(0, 1, 8);
        x.build(0, 2, 16);
        x.build(0, 3, 24);
        x.lease(1, 0, 1);
        x.lease(0, 1, 2);
        x.lease(1, 2, 3);
        same(x.account(4), 3);
        x.day();
        same(x.account(4), 2);
        same(x.account(6), 9);
        x.climb(0, 0);
        x.climb(1, 0);
        x.climb(1, 0);
        x.climb(1, 0);
        same(x.account(8), 3);
        same(x.account(9), 64);
    }

    private static void meanSteps() {
        promise = "41";
        GiantStairs x = new GiantStairs();
        thrown(x::meanSteps, ARITHMETIC);
        x.build(0, 1, 4);
        x.build(0, 2, 4);
        x.build(0, 3, 5);
        same(x.meanSteps(), 13.0 / 3);
        x.tear(2);
        same(x.meanSteps(), 4.0);
    }

    private static void leasedShare() {
        promise = "42";
        GiantStairs x = new GiantStairs();
        thrown(x::leasedShare, ARITHMETIC);
        x.build(0, 1, 4);
        x.build(0, 2, 4);
        x.build(0, 3, 5);
        same(x.leasedShare(), 0.0f);
        x.lease(0, 1, 3);
        same(x.leasedShare(), 1.0f / 3);
        x.lease(1, 0, 3);
        same(x.leasedShare(), 2.0f / 3);
    }

    private static void undo() {
        promise = "43";
        GiantStairs x = new GiantStairs();
        thrown(x::undo, STATE);
        x.build(0, 2, 9);
        x.halve(0);
        x.lease(0, 0, 4);
        x.take(2);
        x.climb(0, 0);
        x.day();
        x.levy(0, 0);
        x.free(0, 0);
        same(x.account(13), 8);
        same(x.undo(), 7);
        same(x.landingOf(0, 0), 0);
        same(x.undo(), 6);
        same(x.stairOf(0, 3), 2);
        same(x.undo(), 5);
        same(x.account(2), 0);
        same(x.turn(), 0);
        same(x.stairOf(0, 6), 4);
        same(x.undo(), 4);
        same(x.giantOf(0, 1), 0);
        same(x.giantOf(0, 3), 0);
        same(x.undo(), 3);
        same(x.account(3), 0);
        same(x.account(10), 0);
        same(x.undo(), 2);
        same(x.stairOf(0, 5), -1);
        same(x.undo(), 1);
        same(x.stairOf(0, 2), 9);
        same(x.account(11), 0);
        same(x.undo(), 0);
        same(x.account(0), 0);
        thrown(x::undo, STATE);
        for (int day = 0; day < 20; day++) {
            x.day();
        }
        for (int left = 7; left >= 0; left--) {
            same(x.undo(), left);
        }
        same(x.account(2), 12);
        thrown(x::undo, STATE);
    }

    private static void undoKeepsWhatIsNoChange() {
        promise = "43";
        GiantStairs x = new GiantStairs();
        x.save();
        x.build(0, 2, 9);
        x.append('d');
        x.tellStair(0);
        thrown(() -> x.take(9), REFUSED);
        same(x.account(13), 1);
        same(x.undo(), 0);
        same(x.account(12), 1);
        line(x, 8, "0:02^9~0");
        same(x.reason(0, true), 9);
        same(x.restore(), 0);
        x.build(0, 2, 9);
        x.tear(0);
        x.undo();
        same(x.stairOf(0, 2), 9);
        x.halve(0);
        x.undo();
        same(x.undo(), 0);
    }

    private static void save() {
        promise = "44";
        GiantStairs x = new GiantStairs();
        same(x.save(), 0);
        x.build(0, 2, 9);
        same(x.save(), 1);
        same(x.account(13), 1);
        x.day();
        x.tear(0);
        same(x.restore(), 1);
        same(x.account(2), 0);
        same(x.stairOf(0, 2), 9);
    }

    private static void restore() {
        promise = "45";
        GiantStairs x = new GiantStairs();
        thrown(x::restore, STATE);
        x.build(0, 2, 9);
        x.take(2);
        x.climb(0, 0);
        x.lease(0, 0, 3);
        x.save();
        x.day();
        x.climb(0, 0);
        x.append('d');
        thrown(() -> x.take(9), REFUSED);
        x.tellLandings();
        same(x.restore(), 1);
        same(x.account(13), 0);
        thrown(x::undo, STATE);
        same(x.account(2), 0);
        same(x.account(3), 5);
        same(x.account(9), 18);
        same(x.turn(), 0);
        same(x.giantOf(0, 1), 2);
        same(x.stairOf(0, 6), 3);
        same(x.account(12), 1);
        same(x.reason(0, true), 9);
        line(x, 8, "010.....");
        x.tear(0);
        same(x.account(13), 1);
        same(x.restore(), 1);
        same(x.stairOf(0, 2), 9);
    }

    private static void type(GiantStairs x, String text) {
        for (char sign : text.toCharArray()) {
            x.append(sign);
        }
    }

    private static void line(GiantStairs x, int length, String due) {
        same(length, due.length());
        for (int index = 0; index < due.length(); index++) {
            same(x.character(index), due.charAt(index));
        }
        thrown(() -> x.character(due.length()), INDEX);
    }

    /** The number, or -1 where NoSuchElementException is due. */
    private static void number(Call call, int due) {
        if (due < 0) {
            thrown(call, MISSING);
        } else {
            same(call.get(), due);
        }
    }

    private static void refused(GiantStairs x, Call call, int number, int detail) {
        int changes = x.account(13);
        thrown(call, REFUSED);
        same(x.reason(0, false), number);
        same(x.reason(0, true), detail);
        thrown(() -> x.reason(1, false), MISSING);
        same(x.account(13), changes);
    }

    private static void thrown(Call call, Class<? extends RuntimeException> due) {
        Object got = "nothing";
        try {
            call.get();
        } catch (RuntimeException e) {
            got = e.getClass();
        }
        same(got, due);
    }

    private static void same(Object got, Object due) {
        checks++;
        if (!Objects.equals(got, due)) {
            wrong++;
            StackTraceElement[] trace = new Throwable().getStackTrace();
            StringBuilder lines = new StringBuilder();
            for (int i = 1; i < trace.length && !trace[i].getMethodName().startsWith("promises"); i++) {
                lines.append(" ").append(trace[i].getLineNumber());
            }
            System.out.println("promise " + promise + ": got " + got + ", due is " + due + ", at lines" + lines);
        }
    }

    private interface Call {
        Object get();
    }
}
