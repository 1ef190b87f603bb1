import java.io.IOException;
import java.nio.file.Files;
import java.nio.file.Path;
import java.util.ArrayList;
import java.util.HashSet;
import java.util.List;
import java.util.NoSuchElementException;
import java.util.Objects;
import java.util.Set;
import java.util.regex.Matcher;
import java.util.regex.Pattern;

/**
 * The document read sentence by sentence: each sentence that names a boundary case is quoted where it is tested. The
 * quotes are looked up in the document, and each of its sentences on an exception must be quoted.
 */
public final class BoundariesTest {
    private static final Path DOCUMENT = Path.of("../shared/DOC.md");
    private static final int PROMISES = 45;
    /** What is told before the promises holds for all of them. */
    private static final int TERMS = 0;

    private static final Class<? extends RuntimeException> INDEX = IndexOutOfBoundsException.class;
    private static final Class<? extends RuntimeException> ARGUMENT = IllegalArgumentException.class;
    private static final Class<? extends RuntimeException> STATE = IllegalStateException.class;
    private static final Class<? extends RuntimeException> MISSING = NoSuchElementException.class;
    private static final Class<? extends RuntimeException> REFUSED = UnsupportedOperationException.class;
    private static final Class<? extends RuntimeException> ARITHMETIC = ArithmeticException.class;

    private static final int LEAST = Integer.MIN_VALUE;
    private static final int MOST = Integer.MAX_VALUE;
    private static final int[] NO_GIANTS = {-1, 2, LEAST, MOST};
    private static final int[] NO_LANDINGS = {-1, 8, LEAST, MOST};
    /** Of the scene rich, which has 3 staircases. */
    private static final int[] NO_STAIRS = {-1, 3, 9, 10, LEAST, MOST};
    private static final int[] NO_STEPS = {0, -1, 41, LEAST, MOST};
    private static final int[] NO_LEASE_DAYS = {0, -1, 10, LEAST, MOST};
    private static final int[] NO_DAYS_TO_COME = {-1, 41, LEAST, MOST};

    private static final Set<String> QUOTES = new HashSet<>();
    private static final List<String> SECTIONS = new ArrayList<>();
    private static int promise = TERMS;
    private static String sentence = "";
    private static int sentences = 0;
    private static int checks = 0;
    private static int wrong = 0;

    public static void main(String[] args) throws IOException {
        readDocument();
        terms();
        promises1To5();
        promises6To10();
        promises11To21();
        promises22To31();
        promises32To35();
        promises36To42();
        promises43To45();
        eachExceptionIsQuoted();
        System.out.println(sentences + " sentences, " + checks + " checks, " + wrong + " wrong");
        if (wrong != 0) {
            System.exit(1);
        }
    }

    private static void terms() {
        atFirst();
        staircasesAreNumbered();
        dustFallsUpTo20();
        rentsBySteps();
        leasesEnd();
        poorGiants();
        turnsGoOver();
        sequenceOfReasons();
        reasonsWithDetails();
        whereGiantsStand();
        changes();
        lastCalls();
        details();
        daysToCome();
    }

    private static void promises1To5() {
        newObject();
        build();
        buildInOrder();
        tear();
        halve();
        lease();
    }

    private static void promises6To10() {
        climb();
        climbToll();
        climbDust();
        levy();
        levyCoins();
        take();
        takeCoins();
        free();
        day();
    }

    private static void promises11To21() {
        giantOf();
        landingOf();
        stairOf();
        between();
        breaths();
        steps();
        stepsAgain();
        way();
        wayAgain();
        longestWays();
        waysOverMoreStaircases();
        first();
        reach();
    }

    private static void promises22To31() {
        dustIn();
        dustAgain();
        rentsIn();
        levyOf();
        bestLevy();
        canTake();
        takable();
        turn();
        ranked();
        isTold();
    }

    private static void promises32To35() {
        append();
        run();
        runAllOrNone();
        ordersAreCalls();
        formOfTexts();
        faultPosition();
        reason();
        reasonsOfOrders();
    }

    private static void promises36To42() {
        tellGiant();
        tellStair();
        tellLandings();
        character();
        account();
        meanSteps();
        leasedShare();
    }

    private static void promises43To45() {
        undo();
        undoOfEachKind();
        undoOfTheRing();
        save();
        restore();
    }

    // The scenes. Each makes a new object, so that none is used for more than 512 calls.

    /** Something of all kinds, so that a call which alters what it must not is seen. */
    private static GiantStairs rich() {
        GiantStairs x = new GiantStairs();
        x.build(0, 2, 9);
        x.build(2, 1, 16);
        x.build(5, 6, 40);
        x.save();
        x.take(2);
        x.lease(0, 1, 3);
        x.day();
        x.climb(0, 0);
        outcome(x, y -> y.tear(9));
        type(x, "build 9");
        outcome(x, GiantStairs::run);
        x.tellStair(1);
        type(x, "da");
        return x;
    }

    /** 10 staircases: 0 to 6 from the landing 0 to the others, 7 to 9 from 1 to 2, 3 and 4, of 1 to 10 steps. */
    private static GiantStairs full() {
        GiantStairs x = new GiantStairs();
        for (int other = 1; other < 8; other++) {
            x.build(0, other, other);
        }
        for (int other = 2; other < 5; other++) {
            x.build(other, 1, other + 6);
        }
        return x;
    }

    /** The giant 0 has so many coins, and the turn; no staircase is there. */
    private static GiantStairs giantWith(int coins) {
        GiantStairs x = new GiantStairs();
        x.build(0, 1, 1);
        for (int day = 0; day < 30 - coins; day++) {
            if (day % 9 == 0) {
                x.lease(0, 0, 9);
            }
            x.day();
        }
        x.tear(0);
        if (x.turn() == 1) {
            x.day();
        }
        return x;
    }

    /** The landings 0 and 1 are joined by 1 step with so much dust. */
    private static GiantStairs dusty(int dust) {
        GiantStairs x = new GiantStairs();
        x.build(0, 1, 1);
        for (int day = 0; day < dust; day++) {
            x.day();
        }
        return x;
    }

    private static GiantStairs joined(int steps) {
        GiantStairs x = new GiantStairs();
        x.build(0, 1, steps);
        return x;
    }

    /** Both giants stand on the landing 1. */
    private static GiantStairs bothOn1() {
        GiantStairs x = joined(3);
        x.climb(0, 0);
        return x;
    }

    /** The giant 0 stands on the landing 1 of the other giant, and has no landing. */
    private static GiantStairs landless() {
        GiantStairs x = bothOn1();
        x.free(0, 0);
        return x;
    }

    // Terms

    private static void atFirst() {
        at(TERMS);
        says("Each has coins from 0 on, at first 30, and stands on a landing: the giant 0 on the landing 0, and the "
            + "giant 1 on the landing 1 at first.");
        GiantStairs x = new GiantStairs();
        for (int giant = 0; giant < 2; giant++) {
            same(x.giantOf(giant, 0), 30);
            same(x.giantOf(giant, 1), giant);
        }
        same(giantWith(0).giantOf(0, 0), 0);
        says("at first the landing 0 is of the giant 0, the landing 1 of the giant 1, and the others are neutral.");
        for (int landing = 0; landing < 8; landing++) {
            same(x.landingOf(landing, 0), Math.min(landing, 2));
        }
        says("Days are counted from 0.");
        same(x.account(2), 0);
        x.day();
        same(x.account(2), 1);
        says("the turn is that of the giant 0 at first.");
        same(new GiantStairs().turn(), 0);
    }

    private static void staircasesAreNumbered() {
        at(TERMS);
        says("At most 10 staircases are there, numbered from 0; when one is torn down, the numbers of later ones "
            + "become 1 less.");
        GiantStairs x = full();
        same(x.account(0), 10);
        for (int stair = 0; stair < 10; stair++) {
            same(x.stairOf(stair, 2), stair + 1);
        }
        x.tear(0);
        x.tear(8);
        x.tear(3);
        int[] left = {2, 3, 4, 6, 7, 8, 9};
        for (int stair = 0; stair < left.length; stair++) {
            same(x.stairOf(stair, 2), left[stair]);
        }
        throwsUp(x, y -> y.stairOf(7, 2), INDEX);
        same(x.build(6, 7, 5), 7);
        GiantStairs anew = dusty(9);
        anew.build(1, 2, 8);
        anew.halve(1);
        anew.lease(1, 1, 9);
        anew.day();
        anew.tear(1);
        anew.tear(0);
        anew.build(0, 1, 2);
        anew.build(1, 2, 2);
        told(anew, y -> y.tellStair(0), "0:01^2~0");
        told(anew, y -> y.tellStair(1), "1:12^2~0");
        same(anew.stairOf(1, 4), 0);
        says("A staircase joins two unlike landings, and has from 1 to 40 steps; two landings are joined by one at "
            + "most.");
        same(joined(1).stairOf(0, 2), 1);
        same(joined(40).stairOf(0, 2), 40);
        refuses(() -> joined(40), y -> y.build(1, 0, 1), 5, 0);
    }

    private static void dustFallsUpTo20() {
        at(TERMS);
        says("It has dust from 0 to 20, at first 0.");
        same(joined(40).stairOf(0, 3), 0);
        says("first its dust becomes 1 more, and 1 more for each full 5 of its steps, up to 20;");
        int[][] byStepsAndDays = {
            {1, 1, 1}, {4, 1, 1}, {5, 1, 2}, {9, 1, 2}, {10, 1, 3}, {39, 1, 8}, {40, 1, 9},
            {40, 2, 18}, {40, 3, 20}, {40, 4, 20}, {1, 19, 19}, {1, 20, 20}, {1, 21, 20}, {5, 10, 20}, {5, 11, 20},
        };
        for (int[] due : byStepsAndDays) {
            GiantStairs x = joined(due[0]);
            for (int day = 0; day < due[1]; day++) {
                x.day();
            }
            same(x.stairOf(0, 3), due[2]);
        }
    }

    private static void rentsBySteps() {
        at(TERMS);
        says("Per day a lease takes a rent of 1 coin, and 1 more for each 8 steps that the staircase has then.");
        int[][] bySteps = {{1, 1}, {7, 1}, {8, 2}, {15, 2}, {16, 3}, {39, 5}, {40, 6}};
        for (int[] due : bySteps) {
            GiantStairs x = joined(due[0]);
            x.lease(1, 0, 1);
            same(x.day(), due[1]);
            same(x.giantOf(1, 0), 30 - due[1]);
        }
        GiantStairs halved = joined(16);
        halved.lease(0, 0, 9);
        same(halved.day(), 3);
        halved.halve(0);
        same(halved.day(), 2);
        halved.halve(0);
        same(halved.day(), 1);
    }

    private static void leasesEnd() {
        at(TERMS);
        says("A staircase can have a banister that is leased to a giant, for so many days yet, from 1 to 9.");
        same(joined(3).lease(0, 0, 1), 1);
        same(joined(3).lease(0, 0, 9), 1);
        says("has the lease for a day less, which ends if no day is left;");
        for (int days = 1; days <= 9; days++) {
            GiantStairs x = joined(3);
            x.lease(1, 0, days);
            for (int left = days - 1; left >= 0; left--) {
                same(x.day(), 1);
                same(x.stairOf(0, 6), left);
                same(x.stairOf(0, 5), left == 0 ? -1 : 1);
            }
            same(x.day(), 0);
        }
    }

    private static void poorGiants() {
        at(TERMS);
        says("if the giant has too few coins, the lease ends at once, and nothing is given.");
        for (int coins = 0; coins <= 3; coins++) {
            GiantStairs x = giantWith(coins);
            x.build(0, 1, 8);
            x.lease(0, 0, 9);
            boolean isGiven = coins >= 2;
            same(x.day(), isGiven ? 2 : 0);
            same(x.giantOf(0, 0), isGiven ? coins - 2 : coins);
            same(x.stairOf(0, 6), isGiven ? 8 : 0);
            same(x.stairOf(0, 5), isGiven ? 0 : -1);
        }
        says("When a day goes by, for each staircase by its number,");
        GiantStairs x = giantWith(2);
        x.build(0, 1, 16);
        x.build(0, 2, 8);
        x.build(0, 3, 1);
        for (int stair = 0; stair < 3; stair++) {
            x.lease(0, stair, 9);
        }
        same(x.day(), 2);
        same(x.stairOf(0, 6), 0);
        same(x.stairOf(1, 6), 8);
        same(x.stairOf(2, 6), 0);
    }

    private static void turnsGoOver() {
        at(TERMS);
        says("Behind that the turn goes over to the other giant;");
        GiantStairs x = new GiantStairs();
        for (int day = 1; day < 6; day++) {
            x.day();
            same(x.turn(), day % 2);
        }
    }

    /** Calls to which several reasons apply at once, so that the sequence of their method decides. */
    private static void sequenceOfReasons() {
        at(TERMS);
        says("Something is refused for the first that applies of the reasons that its method names, in the order in "
            + "which it names them, with a detail:");
        refuses(BoundariesTest::full, x -> x.build(-3, 9, 0), 2, -3);
        refuses(BoundariesTest::full, x -> x.build(4, 9, 0), 2, 9);
        refuses(BoundariesTest::full, x -> x.build(4, 4, 0), 3, 0);
        refuses(BoundariesTest::full, x -> x.build(4, 4, 1), 4, 4);
        refuses(BoundariesTest::full, x -> x.build(4, 1, 1), 5, 9);
        refuses(BoundariesTest::full, x -> x.build(4, 5, 1), 1, 10);
        refuses(BoundariesTest::rich, x -> x.lease(2, 3, 0), 2, 2);
        refuses(BoundariesTest::rich, x -> x.lease(0, 3, 0), 2, 3);
        refuses(BoundariesTest::rich, x -> x.lease(0, 1, 0), 3, 0);
        refuses(BoundariesTest::rich, x -> x.climb(-1, -1), 2, -1);
        refuses(BoundariesTest::rich, x -> x.climb(1, 2), 8, 1);
        refuses(GiantStairs::new, x -> x.levy(5, 4), 2, 5);
        refuses(GiantStairs::new, x -> x.levy(1, 4), 2, 4);
        refuses(BoundariesTest::full, x -> x.levy(1, 2), 10, 2);
        refuses(BoundariesTest::bothOn1, x -> x.take(1), 12, 0);
        refuses(() -> giantWith(0), x -> x.take(0), 13, 0);
        refuses(() -> giantWith(0), x -> x.take(1), 12, 1);
        refuses(() -> giantWith(0), x -> x.take(2), 14, 1);
        refuses(BoundariesTest::rich, x -> x.free(-1, -2), 2, -1);
        refuses(BoundariesTest::rich, x -> x.free(0, 1), 13, 1);
    }

    private static void reasonsWithDetails() {
        at(TERMS);
        says("1, there are 10 staircases: this number;");
        refuses(BoundariesTest::full, x -> x.build(5, 6, 1), 1, 10);
        says("2, there is no such giant, landing or staircase: its number;");
        refuses(BoundariesTest::full, x -> x.lease(2, 0, 1), 2, 2);
        refuses(BoundariesTest::full, x -> x.free(0, 8), 2, 8);
        refuses(BoundariesTest::full, x -> x.climb(0, 10), 2, 10);
        says("3, a number is out of range: the number;");
        refuses(BoundariesTest::full, x -> x.build(5, 6, 41), 3, 41);
        refuses(BoundariesTest::full, x -> x.lease(0, 0, 10), 3, 10);
        says("4, both landings are one: it;");
        refuses(BoundariesTest::full, x -> x.build(7, 7, 1), 4, 7);
        says("5, a staircase joins them already: its number;");
        refuses(BoundariesTest::full, x -> x.build(7, 0, 1), 5, 6);
        says("6, it was halved 3 times, or has 1 step: its steps;");
        refuses(BoundariesTest::full, x -> x.halve(0), 6, 1);
        Scene thrice = () -> {
            GiantStairs x = joined(33);
            x.halve(0);
            x.halve(0);
            x.halve(0);
            return x;
        };
        refuses(thrice, x -> x.halve(0), 6, 5);
        says("7, its banister is leased: for how many days yet;");
        refuses(BoundariesTest::rich, x -> x.lease(0, 1, 1), 7, 2);
        says("8, the giant stands elsewhere: on which landing;");
        refuses(BoundariesTest::rich, x -> x.climb(0, 2), 8, 2);
        says("9, the landing is neutral: the landing;");
        refuses(BoundariesTest::full, x -> x.climb(0, 4), 9, 5);
        says("10, none of its landings is of this giant: the staircase;");
        refuses(BoundariesTest::full, x -> x.levy(1, 5), 10, 5);
        says("11, there is no dust: how many steps it has;");
        refuses(BoundariesTest::full, x -> x.levy(1, 8), 11, 9);
        says("12, somebody stands on the landing: who;");
        refuses(BoundariesTest::full, x -> x.take(1), 12, 1);
        refuses(BoundariesTest::full, x -> x.free(0, 0), 12, 0);
        says("13, the landing is of this giant, or is not, as it must not be: whose it is;");
        refuses(BoundariesTest::full, x -> x.take(0), 13, 0);
        refuses(BoundariesTest::full, x -> x.free(1, 0), 13, 0);
        refuses(BoundariesTest::full, x -> x.free(1, 7), 13, 2);
        says("14, no staircase joins it with one of the own landings: how many landings the giant has;");
        refuses(GiantStairs::new, x -> x.take(2), 14, 1);
        refuses(BoundariesTest::landless, x -> x.take(2), 14, 0);
        says("15, the giant has too few coins: how many;");
        Scene poor = () -> {
            GiantStairs x = giantWith(4);
            x.build(0, 7, 1);
            return x;
        };
        refuses(poor, x -> x.take(7), 15, 4);
    }

    private static void whereGiantsStand() {
        at(TERMS);
        says("A giant never stands on a neutral landing.");
        refuses(BoundariesTest::landless, x -> x.climb(0, 0), 9, 0);
        refuses(BoundariesTest::landless, x -> x.free(1, 1), 12, 0);
        refuses(GiantStairs::new, x -> x.free(1, 1), 12, 1);
        says("A giant can make an own landing neutral on which nobody stands.");
        same(bothOn1().free(0, 0), 0);
        refuses(BoundariesTest::bothOn1, x -> x.free(1, 0), 13, 0);
        says("Only the giant whose turn it is can take a landing.");
        same(full().canTake(7), true);
        Scene later = () -> {
            GiantStairs x = full();
            x.day();
            return x;
        };
        refuses(later, x -> x.take(7), 14, 1);
        same(later.make().take(2), 25);
        same(later.make().canTake(2), true);
    }

    private static void lastCalls() {
        at(TERMS);
        says("An object is used for at most 512 calls after it has been made;");
        GiantStairs x = joined(40);
        for (int day = 0; day < 509; day++) {
            x.day();
        }
        same(x.stairOf(0, 3), 20);
        same(x.account(2), 509);
    }

    private static void changes() {
        at(TERMS);
        says("The changes are the calls of build, tear, halve, lease, climb, levy, take, free, day and run that throw "
            + "no exception, also if nothing is different then.");
        GiantStairs x = giantWith(30);
        x.undo();
        x.undo();
        type(x, "build 01 3;tear 0");
        same(x.account(13), 0);
        same(x.run(), 2);
        same(x.account(13), 1);
        same(x.account(0), 0);
        type(x, "build 01 3;tear 5");
        throwsUp(x, GiantStairs::run, REFUSED);
        type(x, "tear");
        throwsUp(x, GiantStairs::run, ARGUMENT);
        x.save();
        x.takable();
        same(x.account(13), 1);
        says("The latest 8 can be undone, the latest one first.");
        for (int day = 0; day < 9; day++) {
            x.day();
        }
        same(x.account(13), 8);
        for (int left = 7; left >= 0; left--) {
            same(x.undo(), left);
            same(x.account(2), left + 1);
        }
        throwsUp(x, GiantStairs::undo, STATE);
        says("The input, the fault position, the reason with what is behind it, the line of text and what was saved "
            + "stay as they are when a change is undone.");
        GiantStairs y = rich();
        type(y, ";tear 9");
        outcome(y, z -> z.append('\n'));
        y.tear(0);
        String besides = lineOf(y) + reasonOf(y) + y.faultPosition() + y.account(12);
        y.undo();
        same(lineOf(y) + reasonOf(y) + y.faultPosition() + y.account(12), besides);
        same(y.restore(), 3);
        same(y.account(2), 0);
        says("A method that throws an exception leaves the state unchanged, unless it is said otherwise.");
        changesNothing(BoundariesTest::rich, z -> z.stairOf(3, 8), INDEX);
        changesNothing(BoundariesTest::rich, z -> z.way(0, 6), MISSING);
        changesNothing(BoundariesTest::rich, z -> z.append((char) 127), ARGUMENT);
        says("If something is refused, its reason is kept, in place of the one before.");
        refuses(BoundariesTest::rich, z -> z.take(2), 12, 0);
    }

    private static void details() {
        at(TERMS);
        says("The lowest of both giants who stand on a landing is told as the one who stands there.");
        same(bothOn1().landingOf(1, 2), 0);
        refuses(BoundariesTest::bothOn1, x -> x.free(1, 1), 12, 0);
        says("Only taking is bound to the turn, and does not end it.");
        GiantStairs x = rich();
        same(x.turn(), 1);
        same(x.levy(0, 0), 0);
        same(x.free(0, 0), 1);
        same(x.lease(0, 0, 1), 2);
        refuses(BoundariesTest::rich, y -> y.take(5), 14, 1);
        GiantStairs twice = full();
        same(twice.take(2), 25);
        same(twice.take(3), 20);
        same(twice.turn(), 0);
        says("Dust of less than 4 units can be levied, too, which brings no coin.");
        for (int dust = 1; dust < 4; dust++) {
            GiantStairs dusty = dusty(dust);
            same(dusty.levy(1, 0), 0);
            same(dusty.stairOf(0, 3), 0);
        }
        says("Nothing is given as a lease begins; if its staircase is torn down, it is gone.");
        GiantStairs leased = joined(40);
        leased.lease(1, 0, 9);
        same(leased.giantOf(1, 0), 30);
        leased.tear(0);
        same(leased.account(4), 0);
        same(leased.giantOf(1, 4), 0);
        same(leased.day(), 0);
        leased.build(0, 1, 40);
        same(leased.stairOf(0, 5), -1);
        says("A giant stands elsewhere who stands on neither of the landings of the staircase.");
        refuses(BoundariesTest::full, y -> y.climb(1, 1), 8, 1);
        same(outcome(bothOn1(), y -> y.climb(0, 0)), 6);
        says("Both giants can stand on one landing.");
        same(bothOn1().giantOf(0, 1), 1);
        same(bothOn1().giantOf(1, 1), 1);
        says("What the treaty got, it keeps.");
        same(giantWith(0).account(3), 30);
    }

    private static void daysToCome() {
        at(TERMS);
        says("What is asked of days to come is told as if only days went by.");
        GiantStairs x = rich();
        same(x.rentsIn(2), 6);
        same(x.dustIn(1, 2), 12);
        same(x.dustAgain(1, 2), 12);
        same(stateOf(x), stateOf(rich()));
        x = rich();
        same(x.day() + x.day(), 6);
        same(x.stairOf(1, 3), 12);
    }

    // Promises 1 to 5

    private static void newObject() {
        at(1);
        says("Creates landings without staircases.");
        GiantStairs x = new GiantStairs();
        same(x.account(0), 0);
        throwsUp(x, y -> y.stairOf(0, 0), INDEX);
        for (int landing = 0; landing < 8; landing++) {
            same(x.landingOf(landing, 1), 0);
            same(x.landingOf(landing, 3), 0);
        }
        for (int what = 2; what < 14; what++) {
            same(x.account(what), 0);
        }
    }

    private static void build() {
        at(2);
        says("Returns its number.");
        GiantStairs x = new GiantStairs();
        for (int other = 1; other < 8; other++) {
            same(x.build(other, 0, 40), other - 1);
        }
        same(x.build(7, 6, 1), 7);
        same(x.build(7, 5, 1), 8);
        same(x.build(7, 4, 1), 9);
        x.tear(4);
        same(x.build(5, 0, 1), 9);
    }

    private static void buildInOrder() {
        at(2);
        says("Throws `UnsupportedOperationException` if it is refused for the reason 2, for the one, then for the "
            + "other one, 3, 4, 5 or 1; the reason is kept");
        for (int none : NO_LANDINGS) {
            refuses(BoundariesTest::rich, x -> x.build(none, 8, 0), 2, none);
            refuses(BoundariesTest::rich, x -> x.build(0, none, 0), 2, none);
        }
        for (int none : NO_STEPS) {
            refuses(BoundariesTest::rich, x -> x.build(0, 3, none), 3, none);
            refuses(BoundariesTest::rich, x -> x.build(3, 3, none), 3, none);
            refuses(BoundariesTest::rich, x -> x.build(0, 2, none), 3, none);
        }
        for (int landing = 0; landing < 8; landing++) {
            int one = landing;
            refuses(BoundariesTest::rich, x -> x.build(one, one, 40), 4, one);
        }
        refuses(BoundariesTest::rich, x -> x.build(0, 2, 1), 5, 0);
        refuses(BoundariesTest::rich, x -> x.build(1, 2, 40), 5, 1);
        refuses(BoundariesTest::rich, x -> x.build(6, 5, 40), 5, 2);
        refuses(BoundariesTest::full, x -> x.build(6, 7, 40), 1, 10);
        refuses(BoundariesTest::full, x -> x.build(5, 1, 1), 1, 10);
    }

    private static void tear() {
        at(3);
        says("Returns how many there are then.");
        GiantStairs x = full();
        for (int left = 9; left >= 0; left--) {
            same(x.tear(left / 2), left);
        }
        says("Throws `UnsupportedOperationException` if it is refused for the reason 2; the reason is kept");
        refuses(GiantStairs::new, y -> y.tear(0), 2, 0);
        refuses(BoundariesTest::full, y -> y.tear(10), 2, 10);
        for (int none : NO_STAIRS) {
            refuses(BoundariesTest::rich, y -> y.tear(none), 2, none);
        }
    }

    private static void halve() {
        at(TERMS);
        says("To halve it makes its steps half as many, rounded up; it can be halved at most 3 times.");
        int[][] rows = {{40, 20, 10, 5}, {39, 20, 10, 5}, {33, 17, 9, 5}, {9, 5, 3, 2}, {5, 3, 2, 1}, {8, 4, 2, 1}};
        for (int[] row : rows) {
            GiantStairs x = joined(row[0]);
            for (int times = 1; times < 4; times++) {
                same(x.halve(0), row[times]);
                same(x.stairOf(0, 4), times);
            }
            throwsUp(x, y -> y.halve(0), REFUSED);
            same(x.reason(0, false), 6);
            same(x.reason(0, true), row[3]);
        }
        at(4);
        says("Throws `UnsupportedOperationException` if it is refused for the reason 2 or 6; the reason is kept");
        refuses(GiantStairs::new, x -> x.halve(0), 2, 0);
        for (int none : NO_STAIRS) {
            refuses(BoundariesTest::rich, x -> x.halve(none), 2, none);
        }
        refuses(() -> joined(1), x -> x.halve(0), 6, 1);
        GiantStairs two = joined(2);
        same(two.halve(0), 1);
        throwsUp(two, x -> x.halve(0), REFUSED);
        same(two.reason(0, true), 1);
        same(joined(3).halve(0), 2);
        GiantStairs again = joined(40);
        for (int times = 0; times < 3; times++) {
            again.halve(0);
        }
        again.tear(0);
        again.build(0, 1, 40);
        same(again.halve(0), 20);
        same(again.account(11), 4);
    }

    private static void lease() {
        at(5);
        says("- `days`: for how many days, 1 to 9");
        same(joined(7).lease(0, 0, 1), 1);
        same(joined(8).lease(1, 0, 9), 2);
        same(joined(40).lease(1, 0, 5), 6);
        GiantStairs poor = giantWith(0);
        poor.build(0, 1, 39);
        same(poor.lease(0, 0, 9), 5);
        says("Throws `UnsupportedOperationException` if it is refused for the reason 2, for the giant, then for the "
            + "staircase, 3 or 7; the reason is kept");
        for (int none : NO_GIANTS) {
            refuses(BoundariesTest::rich, x -> x.lease(none, 3, 0), 2, none);
        }
        for (int none : NO_STAIRS) {
            refuses(BoundariesTest::rich, x -> x.lease(1, none, 0), 2, none);
        }
        for (int none : NO_LEASE_DAYS) {
            refuses(BoundariesTest::rich, x -> x.lease(1, 0, none), 3, none);
            refuses(BoundariesTest::rich, x -> x.lease(1, 1, none), 3, none);
        }
        refuses(BoundariesTest::rich, x -> x.lease(0, 1, 9), 7, 2);
        refuses(BoundariesTest::rich, x -> x.lease(1, 1, 1), 7, 2);
        GiantStairs x = joined(3);
        x.lease(0, 0, 2);
        x.day();
        throwsUp(x, y -> y.lease(0, 0, 1), REFUSED);
        same(x.reason(0, true), 1);
        x.day();
        same(x.lease(0, 0, 1), 1);
    }

    // Promises 6 to 10

    private static void climb() {
        at(TERMS);
        says("it takes as many breaths as the staircase has steps, and as much again if it has no banister that is "
            + "leased to this giant.");
        for (int steps = 1; steps <= 40; steps += 39) {
            same(joined(steps).climb(0, 0), 2 * steps);
            GiantStairs x = joined(steps);
            x.lease(0, 0, 1);
            same(x.climb(1, 0), 2 * steps);
            same(x.climb(0, 0), steps);
            x.day();
            same(x.climb(0, 0), 2 * steps);
        }
        at(6);
        says("Throws `UnsupportedOperationException` if it is refused for the reason 2, for the giant, then for the "
            + "staircase, 8 or 9; the reason is kept");
        for (int none : NO_GIANTS) {
            refuses(BoundariesTest::rich, x -> x.climb(none, 3), 2, none);
        }
        for (int none : NO_STAIRS) {
            refuses(BoundariesTest::rich, x -> x.climb(0, none), 2, none);
        }
        refuses(GiantStairs::new, x -> x.climb(0, 0), 2, 0);
        refuses(BoundariesTest::rich, x -> x.climb(0, 2), 8, 2);
        refuses(BoundariesTest::rich, x -> x.climb(1, 0), 8, 1);
        refuses(BoundariesTest::full, x -> x.climb(0, 6), 9, 7);
        refuses(BoundariesTest::full, x -> x.climb(1, 8), 9, 3);
        refuses(BoundariesTest::landless, x -> x.climb(0, 0), 9, 0);
        refuses(BoundariesTest::landless, x -> x.climb(1, 0), 9, 0);
    }

    private static void climbToll() {
        at(TERMS);
        says("If the other landing is of the other giant, that one gets 1 coin as a toll from the one who climbs, if "
            + "this one has any.");
        for (int coins = 0; coins <= 2; coins++) {
            GiantStairs x = giantWith(coins);
            x.build(0, 1, 1);
            x.climb(0, 0);
            int toll = Math.min(coins, 1);
            same(x.giantOf(0, 0), coins - toll);
            same(x.giantOf(1, 0), 30 + toll);
            same(x.giantOf(1, 6), toll);
            same(x.account(8), toll);
            x.climb(0, 0);
            same(x.giantOf(0, 0), coins - toll);
            same(x.giantOf(0, 6), 0);
        }
        GiantStairs y = joined(1);
        y.climb(1, 0);
        same(y.giantOf(0, 0), 31);
        same(y.giantOf(1, 0), 29);
        same(y.giantOf(0, 6), 1);
        same(y.giantOf(1, 6), 0);
    }

    private static void climbDust() {
        at(TERMS);
        says("By going over it half of its dust, rounded down, is swept off.");
        int[][] rows = {{0, 0}, {1, 1}, {2, 1}, {3, 2}, {4, 2}, {19, 10}, {20, 10}};
        for (int[] row : rows) {
            GiantStairs x = dusty(row[0]);
            x.climb(1, 0);
            same(x.stairOf(0, 3), row[1]);
        }
    }

    private static void levy() {
        at(7);
        says("Throws `UnsupportedOperationException` if it is refused for the reason 2, for the giant, then for the "
            + "staircase, 10 or 11; the reason is kept");
        for (int none : NO_GIANTS) {
            refuses(BoundariesTest::rich, x -> x.levy(none, 3), 2, none);
        }
        for (int none : NO_STAIRS) {
            refuses(BoundariesTest::rich, x -> x.levy(0, none), 2, none);
        }
        refuses(BoundariesTest::rich, x -> x.levy(0, 2), 10, 2);
        refuses(BoundariesTest::rich, x -> x.levy(1, 0), 10, 0);
        refuses(BoundariesTest::full, x -> x.levy(1, 6), 10, 6);
        refuses(BoundariesTest::full, x -> x.levy(0, 7), 10, 7);
        refuses(BoundariesTest::landless, x -> x.levy(0, 0), 10, 0);
        refuses(BoundariesTest::full, x -> x.levy(0, 6), 11, 7);
        refuses(BoundariesTest::full, x -> x.levy(1, 9), 11, 10);
        GiantStairs x = joined(39);
        x.halve(0);
        throwsUp(x, y -> y.levy(0, 0), REFUSED);
        same(x.reason(0, true), 20);
        same(rich().levy(0, 1), 1);
        same(rich().levy(1, 1), 1);
    }

    private static void levyCoins() {
        at(TERMS);
        says("the other giant gives 1 coin for each 4 units of dust, as far as there are coins, and the dust becomes "
            + "0.");
        int[][] rows = {{1, 0}, {3, 0}, {4, 1}, {7, 1}, {8, 2}, {19, 4}, {20, 5}};
        for (int[] row : rows) {
            GiantStairs x = dusty(row[0]);
            same(x.levy(0, 0), row[1]);
            same(x.giantOf(0, 0), 30 + row[1]);
            same(x.giantOf(1, 0), 30 - row[1]);
            same(x.account(7), row[1]);
            same(x.stairOf(0, 3), 0);
            throwsUp(x, y -> y.levy(1, 0), REFUSED);
            same(x.reason(0, false), 11);
        }
        for (int coins = 0; coins <= 6; coins++) {
            GiantStairs x = giantWith(coins);
            x.build(0, 1, 40);
            x.day();
            x.day();
            x.day();
            same(x.levy(1, 0), Math.min(coins, 5));
            same(x.giantOf(0, 0), Math.max(coins - 5, 0));
            same(x.stairOf(0, 3), 0);
        }
    }

    private static void take() {
        at(8);
        says("Throws `UnsupportedOperationException` if it is refused for the reason 2, 13, 12, 14 or 15; the reason "
            + "is kept");
        for (int none : NO_LANDINGS) {
            refuses(BoundariesTest::rich, x -> x.take(none), 2, none);
        }
        refuses(GiantStairs::new, x -> x.take(0), 13, 0);
        refuses(BoundariesTest::rich, x -> x.take(1), 13, 1);
        refuses(GiantStairs::new, x -> x.take(1), 12, 1);
        refuses(BoundariesTest::rich, x -> x.take(2), 12, 0);
        refuses(BoundariesTest::bothOn1, x -> x.take(1), 12, 0);
        refuses(GiantStairs::new, x -> x.take(7), 14, 1);
        refuses(BoundariesTest::rich, x -> x.take(0), 14, 1);
        refuses(BoundariesTest::landless, x -> x.take(0), 14, 0);
        Scene owner = () -> {
            GiantStairs x = full();
            x.tear(4);
            x.take(2);
            x.take(3);
            return x;
        };
        refuses(owner, x -> x.take(5), 14, 3);
    }

    private static void takeCoins() {
        at(TERMS);
        says("for 5 coins, which the treaty gets, and for 5 more, which the other giant gets, if it is of that one.");
        for (int coins = 4; coins <= 5; coins++) {
            int had = coins;
            Scene neutral = () -> {
                GiantStairs x = giantWith(had);
                x.build(0, 2, 1);
                return x;
            };
            if (coins < 5) {
                refuses(neutral, x -> x.take(2), 15, had);
            } else {
                GiantStairs x = neutral.make();
                same(x.take(2), 0);
                same(x.account(3), 30);
                same(x.landingOf(2, 0), 0);
            }
        }
        for (int coins = 9; coins <= 10; coins++) {
            int had = coins;
            Scene ofTheOther = () -> {
                GiantStairs x = giantWith(had);
                x.build(0, 3, 1);
                x.build(1, 3, 1);
                x.day();
                x.take(3);
                x.day();
                return x;
            };
            if (coins < 10) {
                refuses(ofTheOther, x -> x.take(3), 15, had);
            } else {
                GiantStairs x = ofTheOther.make();
                same(x.take(3), 0);
                same(x.giantOf(1, 0), 30);
                same(x.account(3), 30);
                same(x.landingOf(3, 0), 0);
            }
        }
        Scene poor = () -> {
            GiantStairs x = giantWith(0);
            x.build(0, 2, 1);
            return x;
        };
        refuses(poor, x -> x.take(2), 15, 0);
        GiantStairs x = bothOn1();
        x.day();
        same(x.take(0), 21);
        same(x.giantOf(0, 0), 34);
        same(x.account(3), 5);
        same(x.giantOf(0, 2), 0);
        same(x.giantOf(1, 2), 2);
        same(x.account(10), 1);
    }

    private static void free() {
        at(9);
        says("Returns how many landings are of the giant then.");
        same(bothOn1().free(0, 0), 0);
        same(rich().free(0, 0), 1);
        says("Throws `UnsupportedOperationException` if it is refused for the reason 2, for the giant, then for the "
            + "landing, 13 or 12; the reason is kept");
        for (int none : NO_GIANTS) {
            refuses(BoundariesTest::rich, x -> x.free(none, 8), 2, none);
        }
        for (int none : NO_LANDINGS) {
            refuses(BoundariesTest::rich, x -> x.free(0, none), 2, none);
        }
        refuses(BoundariesTest::rich, x -> x.free(0, 7), 13, 2);
        refuses(BoundariesTest::rich, x -> x.free(0, 1), 13, 1);
        refuses(BoundariesTest::rich, x -> x.free(1, 2), 13, 0);
        refuses(BoundariesTest::landless, x -> x.free(0, 0), 13, 2);
        refuses(GiantStairs::new, x -> x.free(0, 0), 12, 0);
        refuses(GiantStairs::new, x -> x.free(1, 1), 12, 1);
        refuses(BoundariesTest::bothOn1, x -> x.free(1, 1), 12, 0);
        Scene guest = () -> {
            GiantStairs x = joined(2);
            x.climb(1, 0);
            x.climb(0, 0);
            return x;
        };
        refuses(guest, x -> x.free(0, 0), 12, 1);
        refuses(guest, x -> x.free(1, 1), 12, 0);
    }

    private static void day() {
        at(10);
        says("Returns the rents that are given, together.");
        same(new GiantStairs().day(), 0);
        same(full().day(), 0);
        GiantStairs x = full();
        for (int stair = 0; stair < 10; stair++) {
            x.lease(stair % 2, stair, 1 + stair % 9);
        }
        same(x.day(), 7 + 3 * 2);
        same(x.account(6), 13);
        same(x.account(3), 13);
        same(x.account(4), 8);
        same(x.day(), 13 - 1 - 2);
    }

    // Promises 11 to 15

    private static void giantOf() {
        at(11);
        says("- `what`: 0 for the coins, 1 for the landing, 2 for how many landings are of the giant, 3 for the "
            + "breaths so far, 4 for the banisters that are leased to the giant, 5 for the rents given so far, 6 for "
            + "the tolls got so far");
        int[] first = {22, 2, 2, 18, 1, 3, 0};
        for (int what = 0; what < 7; what++) {
            same(rich().giantOf(0, what), first[what]);
        }
        same(landless().giantOf(0, 2), 0);
        same(landless().giantOf(1, 6), 1);
        says("Throws `IndexOutOfBoundsException` if there is no such giant");
        for (int none : NO_GIANTS) {
            changesNothing(BoundariesTest::rich, x -> x.giantOf(none, 0), INDEX);
            changesNothing(BoundariesTest::rich, x -> x.giantOf(none, 7), INDEX);
        }
        says("Throws `IllegalArgumentException` if what is not 0 to 6");
        for (int none : new int[] {-1, 7, LEAST, MOST}) {
            changesNothing(BoundariesTest::rich, x -> x.giantOf(0, none), ARGUMENT);
            changesNothing(BoundariesTest::rich, x -> x.giantOf(1, none), ARGUMENT);
        }
    }

    private static void landingOf() {
        at(12);
        says("- `what`: 0 for whose it is, 0, 1, or 2 for neutral; 1 for its staircases; 2 for who stands there, -1 "
            + "for nobody; 3 for the set of the landings with which staircases join it, bit k for the landing k");
        same(full().landingOf(0, 1), 7);
        same(full().landingOf(0, 3), 254);
        same(full().landingOf(1, 3), 1 | 4 | 8 | 16);
        same(full().landingOf(7, 3), 1);
        same(full().landingOf(7, 2), -1);
        same(full().landingOf(7, 0), 2);
        same(bothOn1().landingOf(0, 2), -1);
        same(full().landingOf(1, 2), 1);
        same(rich().landingOf(7, 3), 0);
        says("Throws `IndexOutOfBoundsException` if there is no such landing");
        for (int none : NO_LANDINGS) {
            changesNothing(BoundariesTest::rich, x -> x.landingOf(none, 3), INDEX);
            changesNothing(BoundariesTest::rich, x -> x.landingOf(none, 4), INDEX);
        }
        says("Throws `IllegalArgumentException` if what is not 0 to 3");
        for (int none : new int[] {-1, 4, LEAST, MOST}) {
            changesNothing(BoundariesTest::rich, x -> x.landingOf(7, none), ARGUMENT);
        }
    }

    private static void stairOf() {
        at(13);
        says("- `what`: 0 for its lower landing, 1 for the other one, 2 for its steps, 3 for its dust, 4 for how often "
            + "it was halved, 5 for the giant to whom its banister is leased, -1 for none, 6 for the days of the lease "
            + "yet, 0 without one, 7 for what a rent per day would be now");
        int[][] due = {{0, 2, 9, 1, 0, -1, 0, 2}, {1, 2, 16, 4, 0, 0, 2, 3}, {5, 6, 40, 9, 0, -1, 0, 6}};
        GiantStairs x = rich();
        for (int stair = 0; stair < 3; stair++) {
            for (int what = 0; what < 8; what++) {
                same(x.stairOf(stair, what), due[stair][what]);
            }
        }
        says("Throws `IndexOutOfBoundsException` if there is no such staircase");
        for (int none : NO_STAIRS) {
            changesNothing(BoundariesTest::rich, y -> y.stairOf(none, 7), INDEX);
            changesNothing(BoundariesTest::rich, y -> y.stairOf(none, 8), INDEX);
        }
        changesNothing(GiantStairs::new, y -> y.stairOf(0, 0), INDEX);
        changesNothing(BoundariesTest::full, y -> y.stairOf(10, 0), INDEX);
        says("Throws `IllegalArgumentException` if what is not 0 to 7");
        for (int none : new int[] {-1, 8, LEAST, MOST}) {
            changesNothing(BoundariesTest::rich, y -> y.stairOf(2, none), ARGUMENT);
        }
    }

    private static void between() {
        at(14);
        says("Throws `IndexOutOfBoundsException` if there is no such landing, for either");
        for (int none : NO_LANDINGS) {
            changesNothing(BoundariesTest::rich, x -> x.between(none, 2), INDEX);
            changesNothing(BoundariesTest::rich, x -> x.between(2, none), INDEX);
            changesNothing(BoundariesTest::rich, x -> x.between(none, none), INDEX);
        }
        says("Throws `NoSuchElementException` if there is none");
        changesNothing(BoundariesTest::rich, x -> x.between(0, 1), MISSING);
        changesNothing(BoundariesTest::rich, x -> x.between(6, 2), MISSING);
        for (int landing = 0; landing < 8; landing++) {
            int one = landing;
            changesNothing(BoundariesTest::full, x -> x.between(one, one), MISSING);
        }
        same(full().between(4, 1), 9);
        same(full().between(1, 4), 9);
        same(full().between(7, 0), 6);
        GiantStairs torn = full();
        torn.tear(0);
        same(torn.between(1, 4), 8);
        throwsUp(torn, x -> x.between(0, 1), MISSING);
    }

    private static void breaths() {
        at(15);
        says("Returns the breaths that a giant would take over a staircase, wherever the giant stands.");
        same(rich().breaths(0, 2), 80);
        same(rich().breaths(0, 1), 16);
        same(rich().breaths(1, 1), 32);
        same(joined(1).breaths(0, 0), 2);
        says("Throws `IndexOutOfBoundsException` if there is no such giant or staircase");
        for (int none : NO_GIANTS) {
            changesNothing(BoundariesTest::rich, x -> x.breaths(none, 0), INDEX);
        }
        for (int none : NO_STAIRS) {
            changesNothing(BoundariesTest::rich, x -> x.breaths(1, none), INDEX);
        }
    }

    // Promises 16 to 21

    private static void steps() {
        at(16);
        says("Returns the steps, 0 of one and the same.");
        for (int landing = 0; landing < 8; landing++) {
            same(new GiantStairs().steps(landing, landing), 0);
            same(full().steps(landing, landing), 0);
        }
        same(full().steps(7, 6), 13);
        same(full().steps(1, 4), 5);
        says("Throws `IndexOutOfBoundsException` if there is no such landing, for either");
        for (int none : NO_LANDINGS) {
            changesNothing(BoundariesTest::rich, x -> x.steps(none, 2), INDEX);
            changesNothing(BoundariesTest::rich, x -> x.steps(2, none), INDEX);
            changesNothing(BoundariesTest::rich, x -> x.steps(none, none), INDEX);
        }
        says("Throws `NoSuchElementException` if no staircases lead there");
        changesNothing(BoundariesTest::rich, x -> x.steps(0, 5), MISSING);
        changesNothing(BoundariesTest::rich, x -> x.steps(6, 2), MISSING);
        changesNothing(BoundariesTest::rich, x -> x.steps(3, 4), MISSING);
        changesNothing(GiantStairs::new, x -> x.steps(0, 1), MISSING);
    }

    private static void stepsAgain() {
        at(17);
        says("Returns the steps, 0 of one and the same.");
        for (int landing = 0; landing < 8; landing++) {
            same(new GiantStairs().stepsAgain(landing, landing), 0);
            same(full().stepsAgain(landing, landing), 0);
        }
        same(full().stepsAgain(7, 6), 13);
        same(full().stepsAgain(1, 4), 5);
        says("Throws `IndexOutOfBoundsException` if there is no such landing, for either");
        for (int none : NO_LANDINGS) {
            changesNothing(BoundariesTest::rich, x -> x.stepsAgain(none, 2), INDEX);
            changesNothing(BoundariesTest::rich, x -> x.stepsAgain(2, none), INDEX);
            changesNothing(BoundariesTest::rich, x -> x.stepsAgain(none, none), INDEX);
        }
        says("Throws `NoSuchElementException` if no staircases lead there");
        changesNothing(BoundariesTest::rich, x -> x.stepsAgain(0, 5), MISSING);
        changesNothing(BoundariesTest::rich, x -> x.stepsAgain(6, 2), MISSING);
        changesNothing(BoundariesTest::rich, x -> x.stepsAgain(3, 4), MISSING);
        changesNothing(GiantStairs::new, x -> x.stepsAgain(0, 1), MISSING);
    }

    private static void way() {
        at(18);
        says("Returns the breaths, 0 for where the giant stands.");
        same(new GiantStairs().way(0, 0), 0);
        same(new GiantStairs().way(1, 1), 0);
        same(rich().way(0, 2), 0);
        same(landless().way(0, 1), 0);
        same(rich().way(0, 0), 18);
        same(rich().way(0, 1), 16);
        same(rich().way(1, 0), 50);
        says("Throws `IndexOutOfBoundsException` if there is no such giant or landing");
        for (int none : NO_GIANTS) {
            changesNothing(BoundariesTest::rich, x -> x.way(none, 0), INDEX);
        }
        for (int none : NO_LANDINGS) {
            changesNothing(BoundariesTest::rich, x -> x.way(1, none), INDEX);
        }
        says("Throws `NoSuchElementException` if the giant cannot come there");
        changesNothing(BoundariesTest::rich, x -> x.way(0, 5), MISSING);
        changesNothing(BoundariesTest::full, x -> x.way(0, 7), MISSING);
        changesNothing(BoundariesTest::landless, x -> x.way(0, 0), MISSING);
        changesNothing(GiantStairs::new, x -> x.way(0, 1), MISSING);
    }

    private static void wayAgain() {
        at(19);
        says("Returns the breaths, 0 for where the giant stands.");
        same(new GiantStairs().wayAgain(0, 0), 0);
        same(new GiantStairs().wayAgain(1, 1), 0);
        same(rich().wayAgain(0, 2), 0);
        same(landless().wayAgain(0, 1), 0);
        same(rich().wayAgain(0, 0), 18);
        same(rich().wayAgain(0, 1), 16);
        same(rich().wayAgain(1, 0), 50);
        says("Throws `IndexOutOfBoundsException` if there is no such giant or landing");
        for (int none : NO_GIANTS) {
            changesNothing(BoundariesTest::rich, x -> x.wayAgain(none, 0), INDEX);
        }
        for (int none : NO_LANDINGS) {
            changesNothing(BoundariesTest::rich, x -> x.wayAgain(1, none), INDEX);
        }
        says("Throws `NoSuchElementException` if the giant cannot come there");
        changesNothing(BoundariesTest::rich, x -> x.wayAgain(0, 5), MISSING);
        changesNothing(BoundariesTest::full, x -> x.wayAgain(0, 7), MISSING);
        changesNothing(BoundariesTest::landless, x -> x.wayAgain(0, 0), MISSING);
        changesNothing(GiantStairs::new, x -> x.wayAgain(0, 1), MISSING);
    }

    /** All landings in one row of the most steps, all of a giant, and built from the far end. */
    private static void longestWays() {
        GiantStairs x = new GiantStairs();
        int[] row = {1, 7, 6, 5, 4, 3, 2, 0};
        for (int stair = 0; stair < 7; stair++) {
            x.build(row[stair], row[stair + 1], 40);
        }
        at(16);
        says("Returns the fewest steps between two landings, over any landings: nearest landings first.");
        same(x.steps(0, 1), 280);
        same(x.steps(1, 0), 280);
        at(17);
        says("Returns the same by a second way: over more and more landings.");
        same(x.stepsAgain(0, 1), 280);
        same(x.stepsAgain(1, 0), 280);
        at(18);
        says("Returns the fewest breaths in which a giant can come to a landing, over landings that are not neutral: "
            + "nearest landings first.");
        throwsUp(x, y -> y.way(0, 2), MISSING);
        for (int landing = 2; landing < 8; landing++) {
            throwsUp(x, y -> y.way(0, 1), MISSING);
            x.take(landing);
        }
        same(x.way(0, 1), 560);
        same(x.way(1, 0), 560);
        at(19);
        says("Returns the same by a second way: staircase by staircase, again and again.");
        same(x.wayAgain(0, 1), 560);
        same(x.wayAgain(1, 0), 560);
        x.lease(0, 3, 9);
        same(x.wayAgain(0, 1), 520);
        same(x.wayAgain(1, 0), 560);
    }

    /** The way over more staircases is the shorter one, and the last landing is seen from the longer one first. */
    private static void waysOverMoreStaircases() {
        GiantStairs x = new GiantStairs();
        x.build(0, 2, 10);
        x.build(0, 3, 1);
        x.build(3, 2, 1);
        x.build(2, 4, 1);
        at(16);
        says("Returns the fewest steps between two landings, over any landings: nearest landings first.");
        same(x.steps(0, 4), 3);
        same(x.steps(4, 0), 3);
        at(17);
        says("Returns the same by a second way: over more and more landings.");
        same(x.stepsAgain(0, 4), 3);
        same(x.stepsAgain(4, 0), 3);
        x.take(2);
        x.take(4);
        at(18);
        says("Returns the breaths, 0 for where the giant stands.");
        same(x.way(0, 4), 22);
        at(19);
        says("Returns the breaths, 0 for where the giant stands.");
        same(x.wayAgain(0, 4), 22);
        x.take(3);
        same(x.wayAgain(0, 4), 6);
        at(18);
        says("Returns the breaths, 0 for where the giant stands.");
        same(x.way(0, 4), 6);
        at(20);
        says("Returns the staircase with which such a way of the fewest breaths begins, of several the lowest.");
        same(x.first(0, 4), 1);
        x.free(0, 3);
        same(x.first(0, 4), 0);
    }

    private static void first() {
        at(20);
        says("Returns the staircase with which such a way of the fewest breaths begins, of several the lowest.");
        GiantStairs x = new GiantStairs();
        x.build(0, 3, 10);
        x.build(0, 2, 5);
        x.build(2, 3, 5);
        x.take(2);
        x.take(3);
        same(x.first(0, 3), 0);
        same(x.first(0, 2), 1);
        x.tear(0);
        x.build(0, 3, 10);
        same(x.first(0, 3), 0);
        x.lease(0, 2, 1);
        same(x.first(0, 3), 2);
        x.lease(0, 0, 1);
        same(x.first(0, 3), 2);
        x.lease(0, 1, 1);
        same(x.first(0, 3), 0);
        says("Throws `IndexOutOfBoundsException` if there is no such giant or landing");
        for (int none : NO_GIANTS) {
            changesNothing(BoundariesTest::rich, y -> y.first(none, 0), INDEX);
        }
        for (int none : NO_LANDINGS) {
            changesNothing(BoundariesTest::rich, y -> y.first(1, none), INDEX);
        }
        says("Throws `NoSuchElementException` if the giant cannot come there, or stands there");
        changesNothing(BoundariesTest::rich, y -> y.first(0, 5), MISSING);
        changesNothing(BoundariesTest::rich, y -> y.first(0, 2), MISSING);
        changesNothing(BoundariesTest::full, y -> y.first(0, 7), MISSING);
        changesNothing(BoundariesTest::landless, y -> y.first(0, 0), MISSING);
        changesNothing(BoundariesTest::landless, y -> y.first(0, 1), MISSING);
        changesNothing(GiantStairs::new, y -> y.first(1, 1), MISSING);
        changesNothing(GiantStairs::new, y -> y.first(1, 0), MISSING);
    }

    private static void reach() {
        at(21);
        says("Returns the landings to which a giant can come, the own one included.");
        same(new GiantStairs().reach(0), 1);
        same(new GiantStairs().reach(1), 2);
        same(full().reach(0), 3);
        same(rich().reach(0), 7);
        same(rich().reach(1), 7);
        same(landless().reach(0), 2);
        GiantStairs x = full();
        for (int landing = 2; landing < 8; landing++) {
            x.take(landing);
        }
        same(x.reach(0), 255);
        same(x.reach(1), 255);
        says("Throws `IndexOutOfBoundsException` if there is no such giant");
        for (int none : NO_GIANTS) {
            changesNothing(BoundariesTest::rich, y -> y.reach(none), INDEX);
        }
    }

    // Promises 22 to 31

    private static void dustIn() {
        at(22);
        says("- `days`: how many days, 0 to 40");
        same(rich().dustIn(2, 0), 9);
        same(rich().dustIn(2, 1), 18);
        same(rich().dustIn(2, 2), 20);
        same(rich().dustIn(2, 40), 20);
        same(joined(1).dustIn(0, 0), 0);
        same(joined(4).dustIn(0, 19), 19);
        same(joined(4).dustIn(0, 20), 20);
        same(joined(4).dustIn(0, 21), 20);
        same(dusty(20).dustIn(0, 0), 20);
        same(dusty(20).dustIn(0, 40), 20);
        says("Throws `IndexOutOfBoundsException` if there is no such staircase");
        for (int none : NO_STAIRS) {
            changesNothing(BoundariesTest::rich, x -> x.dustIn(none, 40), INDEX);
            changesNothing(BoundariesTest::rich, x -> x.dustIn(none, 41), INDEX);
        }
        says("Throws `IllegalArgumentException` if the days are out of range");
        for (int none : NO_DAYS_TO_COME) {
            changesNothing(BoundariesTest::rich, x -> x.dustIn(2, none), ARGUMENT);
        }
    }

    private static void dustAgain() {
        at(23);
        says("- `days`: how many days, 0 to 40");
        same(rich().dustAgain(2, 0), 9);
        same(rich().dustAgain(2, 1), 18);
        same(rich().dustAgain(2, 2), 20);
        same(rich().dustAgain(2, 40), 20);
        same(joined(1).dustAgain(0, 0), 0);
        same(joined(4).dustAgain(0, 19), 19);
        same(joined(4).dustAgain(0, 20), 20);
        same(joined(4).dustAgain(0, 21), 20);
        same(dusty(20).dustAgain(0, 0), 20);
        same(dusty(20).dustAgain(0, 40), 20);
        says("Throws `IndexOutOfBoundsException` if there is no such staircase");
        for (int none : NO_STAIRS) {
            changesNothing(BoundariesTest::rich, x -> x.dustAgain(none, 40), INDEX);
            changesNothing(BoundariesTest::rich, x -> x.dustAgain(none, 41), INDEX);
        }
        says("Throws `IllegalArgumentException` if the days are out of range");
        for (int none : NO_DAYS_TO_COME) {
            changesNothing(BoundariesTest::rich, x -> x.dustAgain(2, none), ARGUMENT);
        }
    }

    private static void rentsIn() {
        at(24);
        says("- `days`: how many days, 0 to 40");
        int[] due = {0, 3, 6, 6};
        for (int days = 0; days < due.length; days++) {
            same(rich().rentsIn(days), due[days]);
        }
        same(rich().rentsIn(40), 6);
        same(new GiantStairs().rentsIn(40), 0);
        same(full().rentsIn(40), 0);
        says("Returns the rents that would be given in some days, together.");
        GiantStairs x = full();
        for (int stair = 0; stair < 10; stair++) {
            x.lease(0, stair, 9);
        }
        same(x.rentsIn(1), 13);
        same(x.rentsIn(2), 26);
        same(x.rentsIn(3), 30);
        same(x.rentsIn(40), 30);
        same(x.giantOf(0, 0), 30);
        same(x.account(4), 10);
        says("Throws `IllegalArgumentException` if the days are out of range");
        for (int none : NO_DAYS_TO_COME) {
            changesNothing(BoundariesTest::rich, y -> y.rentsIn(none), ARGUMENT);
        }
    }

    private static void levyOf() {
        at(25);
        says("Returns the coins, 0 if it would be refused.");
        same(rich().levyOf(1, 0), 0);
        same(rich().levyOf(0, 2), 0);
        same(full().levyOf(0, 0), 0);
        same(rich().levyOf(0, 0), 0);
        same(rich().levyOf(0, 1), 1);
        same(rich().levyOf(1, 1), 1);
        same(dusty(3).levyOf(0, 0), 0);
        same(dusty(4).levyOf(0, 0), 1);
        same(dusty(20).levyOf(1, 0), 5);
        GiantStairs asked = rich();
        asked.levyOf(1, 0);
        asked.levyOf(1, 1);
        same(stateOf(asked), stateOf(rich()));
        for (int coins = 0; coins <= 6; coins++) {
            GiantStairs x = giantWith(coins);
            x.build(0, 1, 40);
            x.day();
            x.day();
            x.day();
            same(x.levyOf(1, 0), Math.min(coins, 5));
        }
        says("Throws `IndexOutOfBoundsException` if there is no such giant or staircase");
        for (int none : NO_GIANTS) {
            changesNothing(BoundariesTest::rich, x -> x.levyOf(none, 0), INDEX);
        }
        for (int none : NO_STAIRS) {
            changesNothing(BoundariesTest::rich, x -> x.levyOf(1, none), INDEX);
        }
    }

    private static void bestLevy() {
        at(26);
        says("Returns the staircase on which a levy of a giant would bring the most coins, of several the lowest.");
        same(rich().bestLevy(0), 1);
        same(dusty(4).bestLevy(1), 0);
        GiantStairs x = full();
        for (int day = 0; day < 3; day++) {
            x.day();
        }
        same(x.bestLevy(0), 4);
        same(x.bestLevy(1), 9);
        x.levy(1, 9);
        same(x.bestLevy(1), 7);
        says("Throws `IndexOutOfBoundsException` if there is no such giant");
        for (int none : NO_GIANTS) {
            changesNothing(BoundariesTest::rich, y -> y.bestLevy(none), INDEX);
        }
        says("Throws `NoSuchElementException` if none would bring a coin");
        changesNothing(GiantStairs::new, y -> y.bestLevy(0), MISSING);
        changesNothing(BoundariesTest::full, y -> y.bestLevy(0), MISSING);
        changesNothing(() -> dusty(3), y -> y.bestLevy(0), MISSING);
        changesNothing(BoundariesTest::landless, y -> y.bestLevy(0), MISSING);
        Scene poor = () -> {
            GiantStairs y = giantWith(0);
            y.build(0, 1, 40);
            y.day();
            return y;
        };
        changesNothing(poor, y -> y.bestLevy(1), MISSING);
        same(poor.make().bestLevy(0), 0);
    }

    private static void canTake() {
        at(27);
        says("Returns whether the giant whose turn it is could take a landing now.");
        same(full().canTake(0), false);
        same(full().canTake(1), false);
        same(full().canTake(7), true);
        same(landless().canTake(0), false);
        same(bothOn1().canTake(1), false);
        GiantStairs asked = rich();
        same(asked.canTake(2), false);
        same(stateOf(asked), stateOf(rich()));
        for (int coins = 4; coins <= 10; coins++) {
            GiantStairs x = giantWith(coins);
            x.build(0, 2, 1);
            x.build(0, 3, 1);
            x.build(1, 3, 1);
            x.day();
            x.take(3);
            x.day();
            same(x.canTake(2), coins >= 5);
            same(x.canTake(3), coins >= 10);
        }
        says("Throws `IndexOutOfBoundsException` if there is no such landing");
        for (int none : NO_LANDINGS) {
            changesNothing(BoundariesTest::rich, x -> x.canTake(none), INDEX);
        }
    }

    private static void takable() {
        at(28);
        says("Returns their set, bit k for the landing k.");
        same(new GiantStairs().takable(), 0);
        same(full().takable(), 252);
        GiantStairs x = full();
        x.day();
        same(x.takable(), 4 | 8 | 16);
        x.day();
        x.climb(0, 0);
        same(x.takable(), 252);
        x.day();
        same(x.takable(), 1 | 4 | 8 | 16);
        same(landless().takable(), 0);
        GiantStairs asked = rich();
        asked.takable();
        same(stateOf(asked), stateOf(rich()));
    }

    private static void turn() {
        at(29);
        says("Returns the giant.");
        same(new GiantStairs().turn(), 0);
        same(rich().turn(), 1);
        GiantStairs x = rich();
        x.day();
        same(x.turn(), 0);
        x.restore();
        same(x.turn(), 0);
        x.day();
        x.undo();
        same(x.turn(), 0);
    }

    private static void ranked() {
        at(30);
        says("Returns a staircase in an order, the greatest first, of several the lowest.");
        for (int place = 0; place < 10; place++) {
            same(full().ranked(0, place), 9 - place);
            same(full().ranked(1, place), place);
            same(full().ranked(2, place), place);
        }
        int[] byRent = {7, 8, 9, 0, 1, 2, 3, 4, 5, 6};
        for (int place = 0; place < 10; place++) {
            same(full().ranked(3, place), byRent[place]);
        }
        says("Throws `IllegalArgumentException` if there is no such kind");
        for (int none : new int[] {-1, 4, LEAST, MOST}) {
            changesNothing(BoundariesTest::rich, x -> x.ranked(none, 0), ARGUMENT);
            changesNothing(BoundariesTest::rich, x -> x.ranked(none, 3), ARGUMENT);
        }
        says("Throws `NoSuchElementException` if there is no such place");
        for (int none : new int[] {-1, 3, 10, LEAST, MOST}) {
            for (int each = 0; each < 4; each++) {
                int kind = each;
                changesNothing(BoundariesTest::rich, x -> x.ranked(kind, none), MISSING);
            }
        }
        changesNothing(GiantStairs::new, x -> x.ranked(0, 0), MISSING);
        changesNothing(BoundariesTest::full, x -> x.ranked(3, 10), MISSING);
    }

    private static void isTold() {
        at(31);
        says("no giant stands on a neutral landing, and the coins of the giants and of the treaty are 60 together.");
        same(new GiantStairs().isTold(), true);
        same(rich().isTold(), true);
        same(full().isTold(), true);
        same(landless().isTold(), true);
        same(giantWith(0).isTold(), true);
        GiantStairs x = dusty(20);
        x.levy(0, 0);
        x.climb(0, 0);
        same(x.isTold(), true);
    }

    // Promises 32 to 35

    private static void append() {
        at(32);
        says("Returns the number of characters in the input.");
        GiantStairs x = new GiantStairs();
        for (int length = 1; length <= 60; length++) {
            same(x.append((char) (31 + length)), length);
        }
        says("Throws `IllegalArgumentException` if its code is not from 32 to 126");
        for (char none : new char[] {0, 9, 10, 31, 127, 128, 233, 65535}) {
            changesNothing(BoundariesTest::rich, y -> y.append(none), ARGUMENT);
            throwsUp(x, y -> y.append(none), ARGUMENT);
        }
        same(rich().append((char) 32), 3);
        same(rich().append((char) 126), 3);
        says("Throws `IllegalStateException` if the input contains 60 characters");
        throwsUp(x, y -> y.append('d'), STATE);
        same(x.account(12), 60);
        throwsUp(x, GiantStairs::run, ARGUMENT);
        same(x.append('d'), 1);
    }

    private static void run() {
        at(33);
        says("The input is empty afterwards, also if an exception is thrown.");
        for (String text : new String[] {"day", "", "day;", "tear 0", "day;climb 0 0"}) {
            GiantStairs x = new GiantStairs();
            type(x, text);
            outcome(x, GiantStairs::run);
            same(x.account(12), 0);
            same(x.append('x'), 1);
        }
        says("Returns the number of orders.");
        GiantStairs x = new GiantStairs();
        type(x, "day");
        same(x.run(), 1);
        type(x, "day;day;day;day;day;day;day;day;day;day;day;day;day;day;day");
        same(x.run(), 15);
        same(x.account(2), 16);
        same(x.account(13), 2);
        type(x, "build 01 40;build 02 40;build 03 40;build 04 40;build 05 40;");
        same(x.account(12), 60);
        throwsUp(x, GiantStairs::run, ARGUMENT);
        same(x.faultPosition(), 60);
        type(x, "build 01 40;build 02 40;build 03 40;build 04 40;build 05 40");
        same(x.run(), 5);
        says("Throws `IllegalArgumentException` if the text has a fault");
        for (String text : new String[] {"", ";", "day;", "tear 10", "day;tear", " day", "day ;day"}) {
            leavesTheTreaty(text, ARGUMENT);
        }
        says("Throws `UnsupportedOperationException` if an order is refused, for the reasons for which its method is; "
            + "the reason 16 is kept");
        for (String text : new String[] {"day;tear 9", "climb 1 0", "build 20 5", "day;day;take 7", "lease 0 0 0"}) {
            leavesTheTreaty(text, REFUSED);
        }
    }

    /** The text fails, and the treaty, the line and the changes that can be undone stay as they were. */
    private static void leavesTheTreaty(String text, Class<? extends RuntimeException> due) {
        GiantStairs x = withInput(text);
        throwsUp(x, GiantStairs::run, due);
        same(x.account(12), 0);
        GiantStairs before = withInput("");
        same(treatyOf(x), treatyOf(before));
        same(lineOf(x), lineOf(before));
        same(x.account(13), before.account(13));
        same(pastOf(x), pastOf(before));
    }

    /** The scene rich with another input. */
    private static GiantStairs withInput(String text) {
        GiantStairs x = rich();
        outcome(x, GiantStairs::run);
        type(x, text);
        return x;
    }

    private static void runAllOrNone() {
        at(33);
        says("Reads the input as a text and does its orders, one after the other, all or none.");
        GiantStairs x = new GiantStairs();
        type(x, "build 01 8;lease 0 0 9;day;climb 0 0;levy 1 0;tear 1");
        throwsUp(x, GiantStairs::run, REFUSED);
        same(treatyOf(x), treatyOf(new GiantStairs()));
        same(x.account(13), 0);
        type(x, "build 01 8;tear 0;build 01 8;tear 0;build 02 8;take 2");
        same(x.run(), 6);
        same(x.account(0), 1);
        same(x.account(13), 1);
        same(x.undo(), 0);
        same(treatyOf(x), treatyOf(new GiantStairs()));
        GiantStairs full = full();
        type(full, "build 56 1");
        throwsUp(full, GiantStairs::run, REFUSED);
        same(reasonOf(full), "16/0 1/10");
        type(full, "tear 9;build 56 1");
        same(full.run(), 2);
    }

    private static void ordersAreCalls() {
        at(TERMS);
        says("The orders are: build, two landings are joined by a staircase with steps; tear, it is torn down; halve, "
            + "it is halved; lease, to a giant the banister of a staircase is leased for so many days; climb, a giant "
            + "goes over a staircase; levy, a giant levies dust on a staircase; take, the giant whose turn it is takes "
            + "a landing; free, a giant makes a landing neutral; day, a day goes by.");
        orderIsCall("build 73 05", x -> x.build(7, 3, 5));
        orderIsCall("build 73 40", x -> x.build(7, 3, 40));
        orderIsCall("tear 2", x -> x.tear(2));
        orderIsCall("halve 1", x -> x.halve(1));
        orderIsCall("lease 1 2 9", x -> x.lease(1, 2, 9));
        orderIsCall("climb 1 3", x -> x.climb(1, 3));
        orderIsCall("levy 0 1", x -> x.levy(0, 1));
        orderIsCall("take 0", x -> x.take(0));
        orderIsCall("climb 0 1;free 0 2", x -> x.climb(0, 1) + x.free(0, 2));
        orderIsCall("day", GiantStairs::day);
    }

    private static void orderIsCall(String text, Deed deed) {
        GiantStairs x = withInput("build 01 3;" + text);
        same(outcome(x, GiantStairs::run), 1 + text.split(";").length);
        GiantStairs y = withInput("");
        y.build(0, 1, 3);
        same(outcome(y, deed) instanceof Integer, true);
        same(treatyOf(x), treatyOf(y));
    }

    private static void formOfTexts() {
        at(TERMS);
        says("number = digit [ digit ]");
        GiantStairs x = new GiantStairs();
        type(x, "build 01 1;build 02 01;build 03 40;build 04 09");
        same(x.run(), 4);
        int[] steps = {1, 1, 40, 9};
        for (int stair = 0; stair < 4; stair++) {
            same(x.stairOf(stair, 2), steps[stair]);
        }
        orderRefused("build 05 0", "16/0 3/0");
        orderRefused("build 05 00", "16/0 3/0");
        orderRefused("build 05 41", "16/0 3/41");
        orderRefused("build 05 99", "16/0 3/99");
        says("where braces mean zero or more repetitions, brackets that something can be left out, a bar one of "
            + "several, and a digit is one from 0 to 9.");
        fault("tear /", 5);
        fault("tear :", 5);
        fault("tear a", 5);
        orderRefused("tear 9", "16/0 2/9");
        orderRefused("day;tear 0", "16/1 2/0");
        says("The fault position of a text is the index of the first character that cannot continue such a text, or "
            + "its length if it ends too early; words are looked at letter by letter.");
        for (String order : new String[] {
            "build 01 1", "tear 0", "halve 0", "lease 0 0 1", "climb 0 0", "levy 0 0", "take 2", "free 0 0", "day"}) {
            for (int length = 0; length < order.length(); length++) {
                fault(order.substring(0, length), length);
                fault(order.substring(0, length) + "#", length);
                fault(order.substring(0, length) + ";", length);
                fault("day;" + order.substring(0, length), 4 + length);
                fault("day;" + order.substring(0, length) + "Z", 4 + length);
            }
            fault(order + ";", order.length() + 1);
            fault(order + " ", order.length());
            fault(order + ";;", order.length() + 1);
        }
        fault("build 01 123", 11);
        fault("tear 00", 6);
        fault("lease 0 0 10", 11);
        fault("build 0 1 2", 7);
        fault("lelse", 2);
        fault("leavy", 3);
        fault("levase", 3);
        fault("tare", 2);
        fault("teke", 2);
        fault("DAY", 0);
    }

    private static void fault(String text, int due) {
        GiantStairs x = new GiantStairs();
        type(x, text);
        throwsUp(x, GiantStairs::run, ARGUMENT);
        same(x.faultPosition(), due);
    }

    private static void orderRefused(String text, String due) {
        GiantStairs x = new GiantStairs();
        type(x, text);
        throwsUp(x, GiantStairs::run, REFUSED);
        same(reasonOf(x), due);
        same(x.faultPosition(), -1);
    }

    private static void faultPosition() {
        at(34);
        says("Returns the fault position, or -1 if it had no fault or nothing was read.");
        GiantStairs x = new GiantStairs();
        same(x.faultPosition(), -1);
        type(x, "dy");
        same(x.faultPosition(), -1);
        throwsUp(x, GiantStairs::run, ARGUMENT);
        same(x.faultPosition(), 1);
        x.day();
        x.undo();
        x.save();
        x.restore();
        throwsUp(x, y -> y.tear(0), REFUSED);
        type(x, "day");
        same(x.faultPosition(), 1);
        x.run();
        same(x.faultPosition(), -1);
        throwsUp(x, GiantStairs::run, ARGUMENT);
        same(x.faultPosition(), 0);
        type(x, "tear 0");
        throwsUp(x, GiantStairs::run, REFUSED);
        same(x.faultPosition(), -1);
        GiantStairs longest = new GiantStairs();
        type(longest, "day;day;day;day;day;day;day;day;day;day;day;day;day;day;day;");
        throwsUp(longest, GiantStairs::run, ARGUMENT);
        same(longest.faultPosition(), 60);
        type(longest, "day;day;day;day;day;day;day;day;day;day;day;day;day;day;dayd");
        throwsUp(longest, GiantStairs::run, ARGUMENT);
        same(longest.faultPosition(), 59);
    }

    private static void reason() {
        at(35);
        says("Throws `IllegalArgumentException` if the depth is not 0 or 1");
        for (int none : new int[] {-1, 2, LEAST, MOST}) {
            changesNothing(BoundariesTest::rich, x -> x.reason(none, true), ARGUMENT);
            changesNothing(GiantStairs::new, x -> x.reason(none, false), ARGUMENT);
        }
        says("Throws `NoSuchElementException` if nothing was refused, or there is no cause");
        for (int each = 0; each < 2; each++) {
            int depth = each;
            changesNothing(GiantStairs::new, x -> x.reason(depth, true), MISSING);
            changesNothing(GiantStairs::new, x -> x.reason(depth, false), MISSING);
        }
        changesNothing(BoundariesTest::rich, x -> x.reason(1, true), MISSING);
        changesNothing(BoundariesTest::rich, x -> x.reason(1, false), MISSING);
        same(rich().reason(0, false), 2);
        same(rich().reason(0, true), 9);
        GiantStairs x = new GiantStairs();
        throwsUp(x, y -> y.giantOf(2, 0), INDEX);
        throwsUp(x, GiantStairs::undo, STATE);
        throwsUp(x, GiantStairs::run, ARGUMENT);
        x.canTake(0);
        same(reasonOf(x), "");
        for (int detail : new int[] {LEAST, -1, MOST}) {
            throwsUp(x, y -> y.tear(detail), REFUSED);
            same(x.reason(0, false), 2);
            same(x.reason(0, true), detail);
        }
    }

    private static void reasonsOfOrders() {
        at(TERMS);
        says("16, an order of a text is refused: its index, from 0, with the reason of the order as its cause.");
        orderRefused("tear 0", "16/0 2/0");
        orderRefused("day;day;day;day;day;day;day;day;day;day;day;day;day;tear 5", "16/13 2/5");
        orderRefused("build 89 0", "16/0 2/8");
        orderRefused("build 09 0", "16/0 2/9");
        orderRefused("build 22 0", "16/0 3/0");
        orderRefused("build 22 1", "16/0 4/2");
        orderRefused("build 01 1;build 10 2", "16/1 5/0");
        orderRefused("build 01 1;halve 0", "16/1 6/1");
        orderRefused("build 01 1;lease 0 0 9;lease 1 0 1", "16/2 7/9");
        orderRefused("build 01 1;lease 2 0 9", "16/1 2/2");
        orderRefused("build 12 1;climb 0 0", "16/1 8/0");
        orderRefused("build 12 1;climb 1 0", "16/1 9/2");
        orderRefused("build 12 1;levy 0 0", "16/1 10/0");
        orderRefused("build 12 7;levy 1 0", "16/1 11/7");
        orderRefused("day;take 0", "16/1 12/0");
        orderRefused("take 0", "16/0 13/0");
        orderRefused("take 8", "16/0 2/8");
        orderRefused("take 5", "16/0 14/1");
        orderRefused("free 0 3", "16/0 13/2");
        orderRefused("free 1 1", "16/0 12/1");
        GiantStairs poor = giantWith(4);
        type(poor, "build 02 1;take 2");
        throwsUp(poor, GiantStairs::run, REFUSED);
        same(reasonOf(poor), "16/1 15/4");
        throwsUp(poor, x -> x.halve(7), REFUSED);
        same(reasonOf(poor), "2/7");
    }

    // Promises 36 to 42

    private static void tellGiant() {
        at(36);
        says("Writes a giant as a line of text, in place of the line before: the number, \"@\" and the landing, \"$\" "
            + "and the coins, and \"!\" if it is this one's turn; as in \"0@3$25!\".");
        told(new GiantStairs(), x -> x.tellGiant(0), "0@0$30!");
        told(new GiantStairs(), x -> x.tellGiant(1), "1@1$30");
        told(giantWith(0), x -> x.tellGiant(0), "0@0$0!");
        told(giantWith(9), x -> x.tellGiant(0), "0@0$9!");
        told(rich(), x -> x.tellGiant(0), "0@2$22");
        told(rich(), x -> x.tellGiant(1), "1@1$30!");
        says("Throws `IndexOutOfBoundsException` if there is no such giant");
        for (int none : NO_GIANTS) {
            changesNothing(BoundariesTest::rich, x -> x.tellGiant(none), INDEX);
        }
    }

    private static void tellStair() {
        at(37);
        says("Writes a staircase as a line of text, in place of the line before: its number, \":\", both landings, the "
            + "lower one first, \"^\" and its steps, \"~\" and its dust, and \"=\", the giant, \"/\" and the days if "
            + "its banister is leased; as in \"2:03^40~12=1/5\".");
        told(joined(1), x -> x.tellStair(0), "0:01^1~0");
        told(rich(), x -> x.tellStair(0), "0:02^9~1");
        told(rich(), x -> x.tellStair(1), "1:12^16~4=0/2");
        told(full(), x -> x.tellStair(9), "9:14^10~0");
        GiantStairs longest = full();
        longest.tear(9);
        longest.build(7, 6, 40);
        longest.day();
        longest.day();
        longest.day();
        longest.lease(1, 9, 9);
        told(longest, x -> x.tellStair(9), "9:67^40~20=1/9");
        says("Throws `IndexOutOfBoundsException` if there is no such staircase");
        changesNothing(GiantStairs::new, x -> x.tellStair(0), INDEX);
        changesNothing(BoundariesTest::full, x -> x.tellStair(10), INDEX);
        for (int none : NO_STAIRS) {
            changesNothing(BoundariesTest::rich, x -> x.tellStair(none), INDEX);
        }
    }

    private static void tellLandings() {
        at(38);
        says("Writes whose the landings are as a line of text, in place of the line before: for each \"0\", \"1\" or "
            + "\".\" for a neutral one.");
        told(new GiantStairs(), GiantStairs::tellLandings, "01......");
        told(landless(), GiantStairs::tellLandings, ".1......");
        told(rich(), GiantStairs::tellLandings, "010.....");
        GiantStairs x = full();
        for (int landing = 2; landing < 8; landing++) {
            x.take(landing);
        }
        told(x, GiantStairs::tellLandings, "01000000");
    }

    private static void told(GiantStairs x, Deed deed, String due) {
        same(deed.on(x), due.length());
        same(lineOf(x), due);
    }

    private static void character() {
        at(39);
        says("Returns a character of the line, which is empty at first.");
        for (int none : new int[] {0, 1, -1, LEAST, MOST}) {
            changesNothing(GiantStairs::new, x -> x.character(none), INDEX);
        }
        says("Throws `IndexOutOfBoundsException` if there is no such index");
        same(rich().character(0), '1');
        same(rich().character(12), '2');
        for (int none : new int[] {-1, 13, LEAST, MOST}) {
            changesNothing(BoundariesTest::rich, x -> x.character(none), INDEX);
        }
        GiantStairs shorter = rich();
        same(shorter.tellLandings(), 8);
        throwsUp(shorter, x -> x.character(8), INDEX);
        shorter.day();
        same(shorter.character(7), '.');
    }

    private static void account() {
        at(40);
        says("Returns the number.");
        int[] due = {3, 5, 1, 8, 1, 14, 3, 0, 0, 18, 1, 0, 2, 7};
        for (int what = 0; what < 14; what++) {
            same(rich().account(what), due[what]);
        }
        GiantStairs x = full();
        for (int stair = 0; stair < 10; stair++) {
            x.lease(1, stair, 1);
        }
        same(x.account(0), 10);
        same(x.account(4), 10);
        same(x.giantOf(1, 4), 10);
        same(x.account(13), 8);
        for (int day = 0; day < 20; day++) {
            x.day();
        }
        same(x.account(5), 200);
        for (int landing = 2; landing < 8; landing++) {
            x.take(landing);
        }
        same(x.account(1), 0);
        same(landless().account(1), 7);
        says("Throws `IllegalArgumentException` if what is not 0 to 13");
        for (int none : new int[] {-1, 14, LEAST, MOST}) {
            changesNothing(BoundariesTest::rich, y -> y.account(none), ARGUMENT);
        }
    }

    private static void meanSteps() {
        at(41);
        says("Returns the mean steps of the staircases: the sum, converted to double, divided by their number.");
        same(joined(1).meanSteps(), 1.0);
        same(joined(40).meanSteps(), 40.0);
        same(full().meanSteps(), 5.5);
        same(rich().meanSteps(), 65.0 / 3);
        says("Throws `ArithmeticException` if there are none");
        changesNothing(GiantStairs::new, GiantStairs::meanSteps, ARITHMETIC);
        changesNothing(() -> giantWith(30), GiantStairs::meanSteps, ARITHMETIC);
    }

    private static void leasedShare() {
        at(42);
        says("Returns the share of the staircases whose banister is leased: the one number, converted to float, "
            + "divided by the other.");
        same(full().leasedShare(), 0.0f);
        same(rich().leasedShare(), 1.0f / 3);
        GiantStairs x = full();
        for (int stair = 0; stair < 10; stair++) {
            x.lease(stair % 2, stair, 1);
            same(x.leasedShare(), (stair + 1) / 10.0f);
        }
        says("Throws `ArithmeticException` if there are none");
        changesNothing(GiantStairs::new, GiantStairs::leasedShare, ARITHMETIC);
        changesNothing(() -> giantWith(30), GiantStairs::leasedShare, ARITHMETIC);
    }

    // Promises 43 to 45

    private static void undo() {
        at(43);
        says("Returns the number of changes that can still be undone.");
        GiantStairs x = rich();
        for (int left = 6; left >= 0; left--) {
            same(x.undo(), left);
            same(x.account(13), left);
        }
        same(treatyOf(x), treatyOf(new GiantStairs()));
        same(x.account(12), 2);
        same(x.faultPosition(), 7);
        same(reasonOf(x), "2/9");
        same(lineOf(x), "1:12^16~4=0/2");
        says("Throws `IllegalStateException` if there is none");
        changesNothing(GiantStairs::new, GiantStairs::undo, STATE);
        throwsUp(x, GiantStairs::undo, STATE);
        Scene undone = () -> {
            GiantStairs y = joined(3);
            y.undo();
            return y;
        };
        changesNothing(undone, GiantStairs::undo, STATE);
        Scene restored = () -> {
            GiantStairs y = rich();
            y.restore();
            return y;
        };
        changesNothing(restored, GiantStairs::undo, STATE);
    }

    private static void undoOfEachKind() {
        at(43);
        says("Undoes the latest change that was not undone.");
        undoes(x -> x.build(3, 4, 5));
        undoes(x -> x.tear(0));
        undoes(x -> x.halve(1));
        undoes(x -> x.lease(1, 0, 9));
        undoes(x -> x.climb(0, 1));
        undoes(x -> x.climb(1, 1));
        undoes(x -> x.levy(0, 1));
        undoes(x -> x.levy(1, 1));
        undoes(x -> x.take(0));
        undoes(x -> x.free(0, 0));
        undoes(GiantStairs::day);
        undoes(x -> {
            x.append('y');
            return x.run();
        });
    }

    /** The deed is one change, and all that it alters goes back with it. */
    private static void undoes(Deed deed) {
        GiantStairs x = rich();
        x.build(0, 1, 3);
        String before = treatyOf(x);
        same(outcome(x, deed) instanceof Integer, true);
        same(treatyOf(x).equals(before), false);
        same(x.account(13), 8);
        same(x.undo(), 7);
        same(treatyOf(x), before);
    }

    /** More changes than can be undone, with undone ones between them. */
    private static void undoOfTheRing() {
        at(43);
        says("Undoes the latest change that was not undone.");
        for (int before = 0; before < 18; before++) {
            GiantStairs x = new GiantStairs();
            for (int day = 0; day < before; day++) {
                x.day();
            }
            int left = Math.min(before, 8);
            for (int times = 0; times < 3 && left > 0; times++) {
                left--;
                same(x.undo(), left);
            }
            int day = x.account(2);
            x.build(0, 1, 7);
            x.halve(0);
            same(x.account(13), Math.min(left + 2, 8));
            x.undo();
            same(x.stairOf(0, 2), 7);
            x.undo();
            same(x.account(0), 0);
            same(x.account(2), day);
            for (int rest = Math.min(left, 6); rest > 0; rest--) {
                same(x.undo(), rest - 1);
                day--;
                same(x.account(2), day);
            }
            throwsUp(x, GiantStairs::undo, STATE);
        }
    }

    private static void save() {
        at(44);
        says("Saves all that goes back when a change is undone, in place of what was saved before.");
        GiantStairs x = rich();
        int[] before = {x.account(12), x.account(13)};
        String treaty = treatyOf(x);
        same(x.save(), 3);
        same(x.account(12), before[0]);
        same(x.account(13), before[1]);
        x.tear(0);
        x.day();
        x.free(0, 0);
        x.undo();
        same(x.restore(), 3);
        same(treatyOf(x), treaty);
        says("Returns the staircases.");
        same(new GiantStairs().save(), 0);
        same(full().save(), 10);
    }

    private static void restore() {
        at(45);
        says("Restores what was saved, which stays saved. No changes can be undone then.");
        GiantStairs x = rich();
        same(x.restore(), 3);
        String treaty = treatyOf(x);
        same(x.account(2), 0);
        same(x.account(13), 0);
        same(x.account(12), 2);
        same(x.faultPosition(), 7);
        same(reasonOf(x), "2/9");
        same(lineOf(x), "1:12^16~4=0/2");
        throwsUp(x, GiantStairs::undo, STATE);
        x.halve(2);
        x.lease(1, 0, 4);
        same(x.restore(), 3);
        same(treatyOf(x), treaty);
        same(x.restore(), 3);
        x.day();
        same(x.undo(), 0);
        same(treatyOf(x), treaty);
        says("Throws `IllegalStateException` if nothing was saved");
        changesNothing(GiantStairs::new, GiantStairs::restore, STATE);
        changesNothing(BoundariesTest::full, GiantStairs::restore, STATE);
    }

    // The checks

    private interface Scene {
        GiantStairs make();
    }

    private interface Deed {
        Object on(GiantStairs x);
    }

    private static void at(int number) {
        promise = number;
    }

    private static void says(String quote) {
        sentence = quote;
        sentences++;
        QUOTES.add(promise + " " + quote);
        if (!SECTIONS.get(promise).contains(quote)) {
            wrong++;
            System.out.println("promise " + promise + " does not say: " + quote);
        }
    }

    private static void readDocument() throws IOException {
        String document = Files.readString(DOCUMENT).replaceAll("\\s+", " ");
        SECTIONS.add(document.substring(0, document.indexOf("## Promise 1:")));
        for (int number = 1; number <= PROMISES; number++) {
            int start = document.indexOf("## Promise " + number + ":");
            int end = document.indexOf("## ", start + 3);
            SECTIONS.add(document.substring(start, end));
        }
    }

    private static void eachExceptionIsQuoted() throws IOException {
        Pattern pattern = Pattern.compile("^Throws .*$", Pattern.MULTILINE);
        String[] sections = Files.readString(DOCUMENT).split("## Promise (?=\\d+:)");
        for (int number = 1; number <= PROMISES; number++) {
            Matcher matcher = pattern.matcher(sections[number]);
            while (matcher.find()) {
                if (!QUOTES.contains(number + " " + matcher.group())) {
                    wrong++;
                    System.out.println("promise " + number + " has no test of its own for: " + matcher.group());
                }
            }
        }
    }

    /** The deed is refused for the reason, which is kept without a cause, and changes nothing else. */
    private static void refuses(Scene scene, Deed deed, int number, int detail) {
        GiantStairs x = scene.make();
        same(outcome(x, deed), REFUSED);
        same(reasonOf(x), number + "/" + detail);
        same(allButReasonOf(x), allButReasonOf(scene.make()));
    }

    private static void changesNothing(Scene scene, Deed deed, Class<? extends RuntimeException> due) {
        GiantStairs x = scene.make();
        same(outcome(x, deed), due);
        same(stateOf(x), stateOf(scene.make()));
    }

    private static void throwsUp(GiantStairs x, Deed deed, Class<? extends RuntimeException> due) {
        same(outcome(x, deed), due);
    }

    private static Object outcome(GiantStairs x, Deed deed) {
        try {
            return deed.on(x);
        } catch (RuntimeException e) {
            return e.getClass();
        }
    }

    private static String stateOf(GiantStairs x) {
        return reasonOf(x) + allButReasonOf(x);
    }

    private static String allButReasonOf(GiantStairs x) {
        return treatyOf(x) + " input " + x.account(12) + " fault " + x.faultPosition() + " line " + lineOf(x)
            + " changes " + x.account(13) + pastOf(x);
    }

    /** All that goes back when a change is undone. */
    private static String treatyOf(GiantStairs x) {
        StringBuilder told = new StringBuilder(sumsOf(x)).append(" giants");
        for (int giant = 0; giant < 2; giant++) {
            for (int what = 0; what < 7; what++) {
                told.append(' ').append(x.giantOf(giant, what));
            }
        }
        told.append(" landings");
        for (int landing = 0; landing < 8; landing++) {
            told.append(' ').append(x.landingOf(landing, 0)).append('/').append(x.landingOf(landing, 3));
        }
        for (int stair = 0; stair < x.account(0); stair++) {
            told.append(" staircase");
            for (int what = 0; what < 7; what++) {
                told.append(' ').append(x.stairOf(stair, what));
            }
        }
        return told.append(" turn ").append(x.turn()).toString();
    }

    private static String sumsOf(GiantStairs x) {
        StringBuilder told = new StringBuilder(" sums");
        for (int what = 0; what < 12; what++) {
            told.append(' ').append(x.account(what));
        }
        return told.toString();
    }

    /** What undoing and restoring bring back, after which the object is of no use. */
    private static String pastOf(GiantStairs x) {
        StringBuilder told = new StringBuilder(" past");
        for (int times = 0; times < 9; times++) {
            told.append(' ').append(outcome(x, GiantStairs::undo)).append(sumsOf(x));
        }
        return told.append(outcome(x, GiantStairs::restore)).append(sumsOf(x)).toString();
    }

    private static String reasonOf(GiantStairs x) {
        StringBuilder told = new StringBuilder();
        for (int each = 0; each < 2; each++) {
            int depth = each;
            Object number = outcome(x, y -> y.reason(depth, false));
            Object detail = outcome(x, y -> y.reason(depth, true));
            if (!MISSING.equals(number) || !MISSING.equals(detail)) {
                told.append(depth == 0 ? "" : " ").append(number).append('/').append(detail);
            }
        }
        return told.toString();
    }

    private static String lineOf(GiantStairs x) {
        StringBuilder told = new StringBuilder();
        for (int each = 0; each < 20; each++) {
            int index = each;
            Object sign = outcome(x, y -> y.character(index));
            if (INDEX.equals(sign)) {
                return told.toString();
            }
            told.append(sign);
        }
        return told + " and so on";
    }

    private static void type(GiantStairs x, String text) {
        for (char sign : text.toCharArray()) {
            x.append(sign);
        }
    }

    private static void same(Object got, Object due) {
        checks++;
        if (!Objects.equals(got, due)) {
            wrong++;
            int line = 0;
            for (StackTraceElement element : new Throwable().getStackTrace()) {
                if (element.getMethodName().startsWith("promises") || element.getMethodName().equals("terms")) {
                    break;
                }
                line = element.getLineNumber();
            }
            System.out.println("promise " + promise + ", line " + line + ": got " + got + ", due is " + due + ", as it "
                + "says: " + sentence);
        }
    }
}
