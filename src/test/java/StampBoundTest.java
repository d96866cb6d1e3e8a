/** The document's section 4 and promises 23 to 31: each sentence that names a boundary case. */
public final class StampBoundTest {
    private static final int BAD = Run.BAD, NO = Run.NO, FULL = Run.FULL, NONE = Run.NONE;
    /** Two who meet on a DAY if C of PERSON 0 is 10, and do not if it is 0. */
    private static final String ONE_COMES = "p0;p0;h0,0,0,1,10;h1,0,0,0,10;n0;";
    /** Five who can each be at two PLACES in HOUR 3. */
    private static final String FIVE = "p0;p0;p0;p0;p0;h0,3,0,5,0;h1,3,0,5,10;h2,3,0,5,5;h3,3,0,5,5;h4,3,0,5,5;";
    private static final Checks checks = new Checks();

    public static void main(String[] args) {
        sixStampedAtMost();
        fewestAndMostPersons();
        waysOfAnHour();
        alikeWaysAreOne();
        allThatWasStampedOfIt();
        sureInAllWays();
        noneIfThereIsNoWay();
        lawsOfFewestAndMostDays();
        lawsByEachD();
        daysAheadAsTheyWere();
        leastD();
        lawsBeyondTheLastDay();
        aheadOfFewestAndMostDays();
        aheadNone();
        twoKeptAtMost();
        keptAreDaysFilesLeavesHabits();
        keptStayAsTheyWere();
        keptFromDayToDay();
        stamp();
        forget();
        ways();
        sure();
        laws();
        ahead();
        keep();
        back();
        nothingUndoneThen();
        count();
        checks.end("StampBoundTest");
    }

    private static Run fresh() {
        return new Run(checks);
    }

    private static Run laid(String text) {
        return Run.laid(checks, text);
    }

    private static String gathering(String rest, int... kinds) {
        return Towns.gathering(rest, kinds);
    }

    // ---- section 4: stamps

    private static void sixStampedAtMost() {
        checks.sentence("4: STAMPED (6 at most)");
        Run run = laid(FIVE);
        for (int k = 1; k <= 6; k++) {
            run.due(k, "stamp", 3, k - 1, 0).due(k, "count", 5);
        }
        run.refused(FULL, "stamp", 0, 0, 0).refused(FULL, "stamp", 3, 5, 5).due(6, "count", 5);
        // one that was refused is not minded
        laid(FIVE).times(6, "stamp", 0, 0, 0).due(32, "ways", 3).refused(FULL, "stamp", 3, 0, 5).due(32, "ways", 3)
            .due(6, "forget").due(1, "stamp", 3, 0, 5).due(1, "ways", 3);
        // the sixth one is minded
        laid(FIVE).times(5, "stamp", 0, 0, 0).due(32, "ways", 3).due(6, "stamp", 3, 0, 5).due(1, "ways", 3);
        // the same one again is one more
        fresh().due(1, "stamp", 0, 1, 2).due(3, "ways", 0).due(2, "stamp", 0, 1, 2).due(3, "ways", 0);
    }

    private static void fewestAndMostPersons() {
        checks.sentence("4: k (0 to 5) PERSONS were at a PLACE in an HOUR, of one day");
        int[] ways = {1, 5, 10, 10, 5, 1};
        int[] there = {0, 0, 0, 0, 0, 31};
        for (int k = 0; k <= 5; k++) {
            laid(FIVE).due(1, "stamp", 3, 0, k).due(ways[k], "ways", 3).due(there[k], "sure", 3, 0)
                .due(there[5 - k], "sure", 3, 5).due(1, "ways", 0);
        }
        // more than there are PERSONS: it can be told, and there is no way
        laid("p0;h0,0,1,2,5;").due(1, "stamp", 0, 1, 5).due(0, "ways", 0).due(0, "sure", 0, 1).due(0, "sure", 0, 2);
    }

    private static void waysOfAnHour() {
        checks.sentence("4: WAYS of an HOUR: in how many ways all can have been (each at A or B)");
        laid("p0;h0,0,1,2,5;").still(2, "ways", 0).still(1, "ways", 1);
        laid(FIVE).still(32, "ways", 3).still(1, "ways", 0).still(1, "ways", 1).still(1, "ways", 2);
        // whatever C is, 0 and 10, too
        laid("p0;p0;h0,1,1,2,0;h1,1,1,2,10;").still(4, "ways", 1).due(0, "alter", 0, 1, 10).still(4, "ways", 1);
    }

    private static void alikeWaysAreOne() {
        checks.sentence("4: alike ones are one");
        laid("p0;p0;h0,0,1,1,5;h1,0,1,1,5;").still(1, "ways", 0);
        laid("p0;p0;h0,0,1,1,5;h1,0,1,2,5;").still(2, "ways", 0);
        laid("p0;p0;p0;p0;p0;").still(1, "ways", 0).still(1, "ways", 3);
        // he who is at 1 and he who is at 2 the other way round are two ways
        laid("p0;p0;h0,0,1,2,5;h1,0,2,1,5;").due(1, "stamp", 0, 1, 1).still(2, "ways", 0);
    }

    private static void allThatWasStampedOfIt() {
        checks.sentence("4: so that all that was STAMPED of it is so");
        Run run = laid("p0;p0;p0;h0,0,1,2,5;h1,0,1,2,5;h2,0,1,3,5;h0,1,1,2,5;");
        run.due(8, "ways", 0).due(1, "stamp", 0, 1, 1).due(3, "ways", 0).due(2, "stamp", 0, 3, 1).due(2, "ways", 0)
            .due(3, "stamp", 0, 2, 1).due(2, "ways", 0).due(4, "stamp", 1, 1, 1).due(2, "ways", 0).due(1, "ways", 1)
            .due(1, "sure", 1, 1).due(5, "stamp", 0, 5, 0).due(2, "ways", 0).due(6, "stamp", 0, 0, 1).due(0, "ways", 0)
            .due(1, "ways", 1).due(6, "forget").due(8, "ways", 0);
        // of an HOUR without HABITS: only that nobody was anywhere
        laid("p0;p0;").due(1, "stamp", 2, 0, 0).due(1, "ways", 2).due(2, "stamp", 2, 1, 1).due(0, "ways", 2);
    }

    private static void sureInAllWays() {
        checks.sentence("4: SURE of an HOUR and PLACE: PERSONS (bits) who were there in all these");
        Run run = laid("p0;p0;p0;p0;p0;h0,0,1,1,5;h1,0,1,2,10;h2,0,2,1,0;h4,0,5,5,5;");
        run.still(1, "sure", 0, 1).still(0, "sure", 0, 2).still(16, "sure", 0, 5).still(0, "sure", 0, 0)
            .still(0, "sure", 1, 0).still(0, "sure", 3, 5);
        run.due(1, "stamp", 0, 1, 3).still(7, "sure", 0, 1).due(1, "forget").due(1, "stamp", 0, 2, 2)
            .still(6, "sure", 0, 2).still(1, "sure", 0, 1);
        laid(gathering("", 0, 0, 0, 0, 0)).still(31, "sure", 0, 0).still(0, "sure", 0, 1);
    }

    private static void noneIfThereIsNoWay() {
        checks.sentence("4: SURE: none, if there is no way");
        Run run = laid(gathering("", 0, 0, 0, 0, 0)).due(1, "stamp", 0, 0, 4).due(0, "ways", 0);
        for (int place = 0; place <= 5; place++) {
            run.still(0, "sure", 0, place);
        }
        laid(FIVE).due(1, "stamp", 3, 0, 2).due(2, "stamp", 3, 5, 2).due(0, "ways", 3).due(0, "sure", 3, 0)
            .due(0, "sure", 3, 5).due(1, "ways", 2);
    }

    // ---- section 4: laws

    private static void lawsOfFewestAndMostDays() {
        checks.sentence("4: LAWS for n (1 to 30) DAYS from now");
        laid(gathering("", 0, 3)).still(1, "laws", 1, 0).still(30, "laws", 30, 0).refused(BAD, "laws", 0, 0)
            .refused(BAD, "laws", 31, 0).refused(BAD, "laws", 0, -1).refused(BAD, "laws", 31, -1);
        laid(gathering("", 0, 0)).still(0, "laws", 1, 1).still(1, "laws", 2, 1).still(29, "laws", 30, 1)
            .still(29, "laws", 30, 9);
        // by SEED 50 the two first MEET on DAY 29
        laid("p0;p3;h0,0,1,2,1;h1,0,1,1,0;z50;").still(0, "laws", 29, 9).still(1, "laws", 30, 0).still(NONE, "laws", 29, -1)
            .still(0, "laws", 30, -1).toDay(29).still(1, "laws", 1, 0);
        // as many as there can be
        laid(gathering("c6;", 3, 3, 3, 3, 3)).still(300, "laws", 30, 0);
    }

    private static void lawsByEachD() {
        checks.sentence("4: were N d (0 to 9), how many UNLAWFUL COINCIDENCES there would be in these");
        for (int gap = 1; gap <= 10; gap++) {
            Run run = laid(ONE_COMES).due(1, "pass", 1);
            if (gap > 1) {
                run.due(10, "alter", 0, 0, 0).due(0, "pass", gap - 1).due(0, "alter", 0, 0, 10);
            }
            for (int d = 0; d <= 9; d++) {
                int first = gap <= d ? 1 : 0;
                run.due(first, "laws", 1, d).due(d == 0 ? 0 : first + 29, "laws", 30, d);
            }
            run.still(gap <= 9 ? gap : NONE, "laws", 1, -1).still(1, "laws", 2, -1);
        }
        // N itself is nothing to it
        laid(gathering("n9;", 0, 0)).still(0, "laws", 30, 0).still(29, "laws", 30, 1);
        laid(gathering("n0;", 0, 0)).still(0, "laws", 30, 0).still(29, "laws", 30, 9);
    }

    private static void daysAheadAsTheyWere() {
        checks.sentence("4: (those on the DAYS ahead of them being as they were)");
        // they met, though by the HABITS of now they would not have
        laid("p0;p0;h0,0,0,1,10;h1,0,0,0,10;h0,1,2,2,0;n0;").due(1, "pass", 1).due(10, "alter", 0, 0, 0).due(0, "pass", 2)
            .due(0, "laws", 30, 9).due(0, "alter", 0, 0, 10).due(1, "laws", 1, 3).due(0, "laws", 1, 2).due(0, "laws", 1, 0);
        // nothing is ahead of DAY 0, and a DAY that was undone is none
        laid(gathering("", 0, 0)).due(0, "laws", 1, 9).due(1, "pass", 1).due(1, "laws", 1, 9).due(0, "undo")
            .due(0, "laws", 1, 9);
        // LEAVES are as they are now
        laid(gathering("", 0, 0)).due(1, "pass", 1).due(1, "permit", 0, 1).due(0, "laws", 30, 9).due(NONE, "laws", 30, -1)
            .due(0, "permit", 0, 1).due(30, "laws", 30, 9);
    }

    private static void leastD() {
        checks.sentence("4: the least d by which there are any; none");
        laid(gathering("", 0, 3)).still(0, "laws", 1, -1);
        laid(gathering("", 0, 0)).still(NONE, "laws", 1, -1).still(1, "laws", 2, -1);
        laid(gathering("", 2, 2)).still(NONE, "laws", 30, -1).due(30, "pass", 30).still(NONE, "laws", 30, -1);
        laid(gathering("", 1, 3)).still(NONE, "laws", 30, -1);
        laid("p0;").still(NONE, "laws", 30, -1).still(0, "laws", 30, 9);
    }

    private static void lawsBeyondTheLastDay() {
        checks.sentence("4: n DAYS from now, on DAY 999 too");
        laid(gathering("", 0, 0)).toDay(999).still(30, "laws", 30, 9).still(1, "laws", 1, -1).still(0, "ahead", 0, 1, 1)
            .still(0, "where", 0, 0, 30);
    }

    private static void aheadOfFewestAndMostDays() {
        checks.sentence("4: AHEAD of n (1 to 30) DAYS: behind how many of them (0: on the next one) two MEET first");
        laid(gathering("", 0, 0)).still(0, "ahead", 0, 1, 1).still(0, "ahead", 1, 0, 30);
        // by SEED 50 the first DRAW of 0 is on DAY 29: x is 574330, its square leaves 23281, 2910 is an eighth
        Run run = laid("p0;p0;h0,0,1,2,1;h1,0,1,1,0;z50;");
        run.still(29, "ahead", 0, 1, 30).still(NONE, "ahead", 0, 1, 29).still(NONE, "ahead", 0, 1, 1).toDay(28)
            .still(NONE, "ahead", 0, 1, 1).still(1, "ahead", 0, 1, 2).due(0, "pass", 1).still(0, "ahead", 0, 1, 1)
            .due(1, "pass", 1).due(1, "often", 0, 1);
        // by SEED 6 DAY 40 is the first one behind DAY 2: x is 293555
        laid("p0;p0;h0,0,1,2,1;h1,0,1,1,0;z6;").toDay(10).still(NONE, "ahead", 0, 1, 30).due(0, "pass", 1)
            .still(29, "ahead", 0, 1, 30).still(NONE, "ahead", 1, 0, 29);
    }

    private static void aheadNone() {
        checks.sentence("4: AHEAD: none");
        laid("p0;p0;").still(NONE, "ahead", 0, 1, 30);
        laid("p0;p0;h0,0,1,1,5;h1,0,2,2,5;").still(NONE, "ahead", 0, 1, 30);
        laid("p0;p0;h0,0,1,1,5;h1,3,1,1,5;").still(NONE, "ahead", 0, 1, 30);
        // a CROWD does not MEET; a law is nothing to it
        laid(gathering("c3;", 0, 0, 0)).still(NONE, "ahead", 0, 1, 30);
        laid(gathering("c4;", 3, 3, 3)).still(0, "ahead", 0, 1, 30);
    }

    // ---- section 4: kept

    private static void twoKeptAtMost() {
        checks.sentence("4: KEPT: 2 at most");
        laid(ONE_COMES).due(1, "pass", 1).due(1, "keep").due(1, "pass", 1).due(2, "keep").due(1, "pass", 1)
            .refused(FULL, "keep").due(2, "count", 7).due(1, "back").due(2, "count", 1).due(2, "filed", 0)
            .due(2, "keep").refused(FULL, "keep").due(1, "back").due(2, "count", 1).due(0, "back").due(1, "count", 1)
            .refused(NO, "back").due(0, "count", 7);
    }

    private static void keptAreDaysFilesLeavesHabits() {
        checks.sentence("4: KEPT are DAYS, files, LEAVES, HABITS");
        Run run = laid(gathering("n1;f4;", 0, 0, 3)).due(6, "pass", 2).due(1, "permit", 0, 1).due(0, "alter", 2, 0, 3)
            .due(1, "keep");
        run.due(9, "pass", 3).due(0, "permit", 0, 1).due(1, "permit", 1, 2).due(3, "alter", 2, 0, 10).due(0, "alter", 0, 0, 1)
            .due(3, "pass", 1).due(0, "back");
        run.due(2, "count", 1).due(6, "filed", 0).due(5, "filed", 1).due(20, "filed", 2).due(0, "first")
            .due(2, "often", 0, 1).due(2, "often", 1, 2).due(1, "leave", 0, 1).due(0, "leave", 1, 2)
            .due(3, "habit", 2, 0, 2).due(0, "habit", 0, 0, 2).due(0, "permit", 0, 1).due(3, "laws", 1, 1);
        // FIRST is of the files
        laid(gathering("n1;", 0, 0)).due(1, "pass", 1).due(1, "keep").due(1, "pass", 1).due(1, "first").due(2, "keep")
            .due(1, "undo").due(NONE, "first").due(1, "back").due(1, "first").due(0, "back").due(NONE, "first");
        checks.sentence("4: nothing else is KEPT: no text, no stamp");
        laid("p0;h0,0,1,2,5;").due(1, "keep").due(1, "stamp", 0, 1, 1).due(15, "write", 'x').due(0, "back")
            .due(1, "count", 5).due(1, "ways", 0).due(15, "count", 8).due(14, "fault");
        laid("p0;h0,0,1,2,5;").due(1, "stamp", 0, 1, 1).due(1, "keep").due(1, "forget").due(14, "wipe").due(0, "back")
            .due(0, "count", 5).due(2, "ways", 0).due(0, "count", 8);
    }

    private static void keptStayAsTheyWere() {
        checks.sentence("4: KEPT are as they were: what is done behind does not reach them");
        Run run = laid(ONE_COMES).due(3, "pass", 3).due(1, "keep").due(2, "keep");
        run.due(10, "alter", 0, 0, 0).due(1, "permit", 0, 1).due(0, "pass", 9).times(8, "undo").due(1, "back")
            .due(10, "habit", 0, 0, 2).due(0, "leave", 0, 1).due(3, "count", 1).due(3, "often", 0, 1);
        run.due(10, "alter", 0, 0, 4).due(1, "permit", 0, 1).times(3, "pass", 1).due(0, "back").due(10, "habit", 0, 0, 2)
            .due(0, "leave", 0, 1).due(3, "count", 1).due(3, "often", 0, 1).due(1, "laws", 1, 1);
        // undone ahead of it: the DAYS that were kept come again
        laid(ONE_COMES).due(2, "pass", 2).due(1, "keep").due(1, "undo").due(0, "undo").due(10, "alter", 0, 0, 0)
            .due(0, "pass", 5).due(0, "back").due(2, "count", 1).due(2, "filed", 0).due(1, "laws", 1, 1);
    }

    private static void keptFromDayToDay() {
        checks.sentence("4: KEPT are DAYS: the first and the last one");
        laid(ONE_COMES).due(1, "keep").toDay(999).due(2, "keep").refused(FULL, "keep").due(1, "back").due(999, "count", 1)
            .refused(NO, "pass", 1).due(999, "filed", 0).due(0, "back").due(0, "count", 1).due(0, "filed", 0)
            .due(0, "often", 0, 1).due(0, "laws", 1, 9).toDay(999).due(999, "filed", 0);
        Run late = laid(ONE_COMES).toDay(999).due(1, "keep").times(8, "undo").due(991, "count", 1).due(0, "back")
            .due(999, "count", 1).due(999, "filed", 0).refused(NO, "undo");
        late.refused(NO, "pass", 1);
    }

    // ---- promises 23 to 31

    private static void stamp() {
        checks.sentence("Promise 23: STAMPED: how many. BAD");
        Run run = fresh().due(1, "stamp", 0, 0, 0).due(2, "stamp", 3, 5, 5);
        run.refused(BAD, "stamp", 4, 0, 0).refused(BAD, "stamp", -1, 0, 0).refused(BAD, "stamp", 0, 6, 0)
            .refused(BAD, "stamp", 0, -1, 0).refused(BAD, "stamp", 0, 0, 6).refused(BAD, "stamp", 0, 0, -1)
            .due(2, "count", 5);
        checks.sentence("Promise 23: BAD ahead of FULL");
        run.times(4, "stamp", 0, 0, 0).refused(FULL, "stamp", 0, 0, 0).refused(BAD, "stamp", 4, 0, 0)
            .refused(BAD, "stamp", 0, 6, 0).refused(BAD, "stamp", 0, 0, 6).refused(BAD, "stamp", -1, -1, -1);
    }

    private static void forget() {
        checks.sentence("Promise 24: Nothing is STAMPED: how many were");
        Run run = fresh().still(0, "forget");
        for (int k = 1; k <= 6; k++) {
            run.times(k, "stamp", 0, 1, 0).due(k, "forget").still(0, "forget").due(0, "count", 5).due(8, "ways", 0);
        }
    }

    private static void ways() {
        checks.sentence("Promise 25: WAYS. BAD");
        fresh().still(8, "ways", 0).still(2, "ways", 1).still(2, "ways", 2).still(1, "ways", 3).refused(BAD, "ways", 4)
            .refused(BAD, "ways", -1).refused(BAD, "ways", Integer.MIN_VALUE).refused(BAD, "ways", Integer.MAX_VALUE);
    }

    private static void sure() {
        checks.sentence("Promise 26: SURE, as bits. BAD");
        fresh().still(8, "sure", 0, 1).still(0, "sure", 0, 0).still(4, "sure", 2, 5).still(0, "sure", 3, 5)
            .refused(BAD, "sure", 4, 0).refused(BAD, "sure", -1, 0).refused(BAD, "sure", 0, 6).refused(BAD, "sure", 0, -1)
            .refused(BAD, "sure", 4, 6);
    }

    private static void laws() {
        checks.sentence("Promise 27: LAWS: how many (d = 0 to 9), the least d (d = -1; NONE). BAD");
        Run run = laid(gathering("", 0, 0)).due(1, "pass", 1);
        run.still(0, "laws", 1, 0).still(1, "laws", 1, 9).still(1, "laws", 1, -1).refused(BAD, "laws", 1, 10)
            .refused(BAD, "laws", 1, -2).refused(BAD, "laws", 0, 9).refused(BAD, "laws", -1, 9).refused(BAD, "laws", 31, 9)
            .refused(BAD, "laws", 1, Integer.MIN_VALUE).refused(BAD, "laws", 1, Integer.MAX_VALUE)
            .refused(BAD, "laws", Integer.MIN_VALUE, 0).refused(BAD, "laws", Integer.MAX_VALUE, 0);
        checks.sentence("Promise 27: BAD ahead of NONE");
        laid("p0;").refused(NONE, "laws", 1, -1).refused(BAD, "laws", 0, -1).refused(BAD, "laws", 31, -1)
            .refused(BAD, "laws", 1, -2);
    }

    private static void ahead() {
        checks.sentence("Promise 28: AHEAD. NONE; BAD");
        Run run = laid("p0;p0;p0;h0,0,1,1,1;h2,0,1,1,1;");
        run.still(0, "ahead", 0, 2, 1).still(0, "ahead", 2, 0, 30).refused(NONE, "ahead", 0, 1, 30)
            .refused(BAD, "ahead", 0, 2, 0).refused(BAD, "ahead", 0, 2, 31).refused(BAD, "ahead", 0, 2, -1)
            .refused(BAD, "ahead", 0, 3, 1).refused(BAD, "ahead", 3, 0, 1).refused(BAD, "ahead", -1, 0, 1)
            .refused(BAD, "ahead", 0, -1, 1).refused(BAD, "ahead", 2, 2, 1);
        checks.sentence("Promise 28: BAD ahead of NONE");
        run.refused(BAD, "ahead", 0, 1, 0).refused(BAD, "ahead", 0, 1, 31).refused(BAD, "ahead", 1, 1, 30);
    }

    private static void keep() {
        checks.sentence("Promise 29: KEPT: how many. FULL");
        fresh().due(1, "keep").due(2, "keep").refused(FULL, "keep").refused(FULL, "keep").due(1, "back").due(2, "keep")
            .refused(FULL, "keep");
        // what was refused did not come in the place of the second one
        fresh().due(1, "keep").due(1, "permit", 0, 1).due(2, "keep").due(1, "permit", 1, 2).due(FULL, "keep").due(1, "back")
            .due(1, "leave", 0, 1).due(0, "leave", 1, 2).due(0, "back").due(0, "leave", 0, 1);
        // all can still be UNDONE behind it
        fresh().due(1, "permit", 0, 1).due(1, "permit", 1, 2).due(1, "keep").due(2, "count", 6).due(1, "undo")
            .due(0, "leave", 1, 2).due(1, "leave", 0, 1);
    }

    private static void back() {
        checks.sentence("Promise 30: As KEPT last: how many are left. NO");
        fresh().refused(NO, "back");
        fresh().due(1, "permit", 0, 1).refused(NO, "back").due(1, "count", 6).due(0, "undo").due(0, "leave", 0, 1);
        fresh().due(1, "keep").due(0, "back").refused(NO, "back");
        fresh().due(1, "keep").due(1, "permit", 0, 1).due(2, "keep").due(0, "permit", 0, 1).due(1, "back")
            .due(1, "leave", 0, 1).due(0, "back").due(0, "leave", 0, 1).refused(NO, "back");
        // another town is laid: nothing of the one ahead comes back
        laid("p0;p0;").due(1, "keep").due(2, "keep").due(2, "lay").refused(NO, "back").due(1, "keep").due(0, "back");
    }

    private static void nothingUndoneThen() {
        checks.sentence("Promise 30: nothing is UNDONE then");
        fresh().due(1, "permit", 0, 1).due(1, "keep").due(1, "permit", 1, 2).due(2, "count", 6).due(0, "back")
            .due(0, "count", 6).refused(NO, "undo").due(1, "leave", 0, 1).due(1, "permit", 1, 2).due(1, "count", 6)
            .due(0, "undo").due(0, "leave", 1, 2).refused(NO, "undo");
        fresh().due(1, "keep").toDay(30).due(8, "count", 6).due(0, "back").due(0, "count", 6).refused(NO, "undo");
    }

    private static void count() {
        checks.sentence("Promise 31: How many: 0 PERSONS, 1 the DAY, 2 N, 3 CROWD, 4 FINE, 5 STAMPED, 6 .. UNDONE, 7 KEPT, 8 letters");
        Run least = laid("p0;n0;c2;f0;");
        int[] fewest = {1, 0, 0, 2, 0, 0, 0, 0, 12};
        Run most = laid("p0;p0;p0;p0;p0;n9;c6;f20;").toDay(999).times(6, "stamp", 0, 0, 0).times(2, "keep");
        int[] greatest = {5, 999, 9, 6, 20, 6, 8, 2, 25};
        for (int what = 0; what <= 8; what++) {
            least.still(fewest[what], "count", what);
            most.still(greatest[what], "count", what);
        }
        most.times(175, "write", ' ').due(200, "count", 8).due(25, "fault");
        checks.sentence("Promise 31: BAD");
        least.refused(BAD, "count", 9).refused(BAD, "count", -1).refused(BAD, "count", Integer.MIN_VALUE)
            .refused(BAD, "count", Integer.MAX_VALUE);
    }
}
