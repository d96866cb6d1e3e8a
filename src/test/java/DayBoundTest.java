/** The document's section 2 and promises 9 to 16: each sentence that names a boundary case. */
public final class DayBoundTest {
    private static final int BAD = Run.BAD, NO = Run.NO, NONE = Run.NONE;
    /** Two who meet on a DAY if C of PERSON 0 is 10, and do not if it is 0. */
    private static final String ONE_COMES = "p0;p0;h0,0,0,1,10;h1,0,0,0,10;";
    private static final Checks checks = new Checks();

    public static void main(String[] args) {
        dayZeroFirst();
        drawLessThanC();
        drawOfTheLeastAndTheGreatest();
        fewerThanACrowd();
        crowdOfOnePlaceAndHour();
        inAnyHourOnce();
        orderOfTheLaw();
        strangersNeedNoDaysAhead();
        daysAhead();
        hadOneWhateverItWas();
        noDaysAheadOfTheFirst();
        fined();
        lastEightUndone();
        undoneIsTheLatest();
        eachOfTheLastEightIsItself();
        eachDayIsUndone();
        passBounds();
        aboveTheLastDay();
        permit();
        alter();
        undo();
        undoLeavesTheRest();
        where();
        filed();
        first();
        often();
        checks.end("DayBoundTest");
    }

    private static Run fresh() {
        return new Run(checks);
    }

    private static Run laid(String text) {
        return Run.laid(checks, text);
    }

    private static String gathering(String rest, int... kinds) {
        return Towns.gathering(rest, kinds);
    }

    // ---- section 2

    private static void dayZeroFirst() {
        checks.sentence("2: Where all are on a DAY (0 first, 1, ..)");
        // DAY 0: x is 1, the DRAW 0; DAY 1: x is 6152, its square leaves 41487, 5185 is an eighth, the DRAW 5
        laid("p0;h0,0,1,2,5;").due(1, "where", 0, 0, 0).due(2, "where", 0, 0, 1).due(5, "alter", 0, 0, 6)
            .due(1, "where", 0, 0, 1).due(6, "alter", 0, 0, 0).due(2, "where", 0, 0, 0).due(0, "alter", 0, 0, 5)
            .due(0, "count", 1).due(0, "pass", 1).due(1, "count", 1).due(2, "where", 0, 0, 0);
    }

    /** By this DRAW a PERSON is at B with a C as great, at A with a C greater by one. */
    private static void draw(int seed, int day, int i, int h, int due) {
        String text = "p0;".repeat(i + 1) + "h" + i + "," + h + ",1,2," + due + ";z" + seed + ";";
        Run run = laid(text);
        int ahead = day > 999 ? day - 999 : 0;
        run.toDay(day - ahead).due(2, "where", i, h, ahead).due(due, "alter", i, h, due + 1).due(1, "where", i, h, ahead)
            .due(due + 1, "alter", i, h, 0).due(2, "where", i, h, ahead).due(0, "alter", i, h, 10)
            .due(1, "where", i, h, ahead);
    }

    private static void drawLessThanC() {
        checks.sentence("2: at A, if DRAW is less than C, else at B");
        draw(0, 0, 0, 0, 0);
        draw(8, 0, 0, 0, 9);
        draw(0, 1, 0, 0, 5);
        draw(1, 0, 0, 0, 0);
        draw(0, 0, 1, 0, 3);
        draw(0, 0, 0, 1, 2);
        Run never = laid("p0;h0,0,1,2,0;");
        Run ever = laid("p0;h0,0,1,2,10;");
        for (int d = 0; d <= 30; d++) {
            never.due(2, "where", 0, 0, d);
            ever.due(1, "where", 0, 0, d);
        }
    }

    private static void drawOfTheLeastAndTheGreatest() {
        checks.sentence("2: (((x times x) modulo 65521) by 8, cut) modulo 10, x 7919 S, 6151 (the DAY), 3571 I, 1013 H and 1");
        // x and what its square leaves: 783982 and 42262, 14285 and 28831, 3040 and 3139
        draw(99, 0, 0, 0, 2);
        draw(0, 0, 4, 0, 3);
        draw(0, 0, 0, 3, 2);
        // 6138699 and 62392, 6144850 and 41452, 6329380 and 18367: the squares are far above an int
        draw(0, 998, 0, 0, 9);
        draw(0, 999, 0, 0, 1);
        draw(0, 1029, 0, 0, 5);
        // 985835 and 12981, 6946154 and 9411, 7130684 and 10503
        draw(99, 30, 4, 3, 2);
        draw(99, 999, 4, 3, 6);
        draw(99, 1029, 4, 3, 2);
    }

    private static void fewerThanACrowd() {
        checks.sentence("2: Two MEET in an HOUR at one PLACE, if fewer than a CROWD are there");
        int[] twos = {0, 0, 1, 3, 6, 10};
        for (int crowd = 2; crowd <= 6; crowd++) {
            for (int heads = 1; heads <= 5; heads++) {
                int want = heads < crowd ? twos[heads] : 0;
                laid(gathering("c" + crowd + ";", new int[heads])).due(want, "pass", 1).due(want, "filed", 0);
            }
        }
        // without: 4 are a CROWD, 3 are none
        laid(gathering("", 0, 0, 0)).due(3, "pass", 1);
        laid(gathering("", 0, 0, 0, 0)).due(0, "pass", 1).due(NONE, "ahead", 0, 1, 30).due(0, "laws", 30, 9);
        // all kinds are of the CROWD, and those with a LEAVE
        laid(gathering("c3;l0,1;", 0, 0, 1)).due(0, "pass", 1);
    }

    private static void crowdOfOnePlaceAndHour() {
        checks.sentence("2: fewer than a CROWD are there: at this PLACE, in this HOUR");
        // three at PLACE 0 are a CROWD, the two at PLACE 5 are none
        laid("p0;p0;p0;p0;p0;h0,0,0,0,0;h1,0,0,0,0;h2,0,0,0,0;h3,0,5,5,0;h4,0,5,5,0;c3;").due(1, "pass", 1)
            .due(1, "often", 3, 4).due(0, "often", 0, 1);
        // a CROWD in HOUR 0, but not in HOUR 3
        laid(gathering("h0,3,5,5,0;h2,3,5,5,0;h1,3,4,4,0;c3;", 0, 0, 0)).due(1, "pass", 1).due(1, "often", 0, 2)
            .due(0, "often", 0, 1);
        // not at one PLACE
        laid("p0;p0;h0,0,0,0,0;h1,0,1,1,0;").due(0, "pass", 30);
        // not in one HOUR
        laid("p0;p0;h0,0,0,0,0;h1,1,0,0,0;").due(0, "pass", 30);
    }

    private static void inAnyHourOnce() {
        checks.sentence("2: A COINCIDENCE of two on a DAY is that they MEET in any of its HOURS (once)");
        String all = "p0;p0;";
        for (int h = 0; h <= 3; h++) {
            String both = "h0," + h + ",5,5,0;h1," + h + ",5,5,0;";
            laid("p0;p0;" + both).due(1, "pass", 1).due(1, "often", 0, 1).due(0, "ahead", 0, 1, 1);
            all += both;
            laid(all + "n1;").due(1, "pass", 1).due(1, "filed", 0).due(0, "filed", 1).due(1, "pass", 1).due(1, "filed", 1)
                .due(2, "often", 0, 1).due(1, "laws", 1, 1);
        }
    }

    private static void orderOfTheLaw() {
        checks.sentence("2: none, if they have a LEAVE; none, if one is a CLERK; any, if one is a STRANGER; none of two TWINS");
        // of three DAYS, N being 1: by KINDS of the one and of the other
        int[][] unlawful = {{2, 0, 2, 3}, {0, 0, 0, 0}, {2, 0, 0, 3}, {3, 0, 3, 3}};
        for (int one = 0; one <= 3; one++) {
            for (int other = 0; other <= 3; other++) {
                int want = unlawful[one][other];
                laid(gathering("n1;", one, other)).due(want, "laws", 3, 1).due(3, "pass", 3).due(want, "filed", 1);
                laid(gathering("n1;l1,0;", one, other)).due(0, "laws", 3, 1).due(3, "pass", 3).due(0, "filed", 1);
            }
        }
    }

    private static void strangersNeedNoDaysAhead() {
        checks.sentence("2: any, if one is a STRANGER");
        for (int other : new int[] {0, 2, 3}) {
            laid(gathering("n0;", 3, other)).due(1, "pass", 1).due(1, "filed", 1).due(0, "first").due(0, "laws", 1, -1);
        }
        laid(gathering("n0;", 3, 1)).due(1, "pass", 1).due(0, "filed", 1).due(NONE, "first").due(NONE, "laws", 30, -1);
    }

    private static void daysAhead() {
        checks.sentence("2: else if they had one on one of the N DAYS ahead (0: never)");
        for (int ban = 0; ban <= 9; ban++) {
            for (int gap = 1; gap <= 11; gap++) {
                Run run = laid(ONE_COMES + "n" + ban + ";").due(1, "pass", 1);
                if (gap > 1) {
                    run.due(10, "alter", 0, 0, 0).due(0, "pass", gap - 1).due(0, "alter", 0, 0, 10);
                }
                int want = gap <= ban ? 1 : 0;
                run.due(want, "laws", 1, ban).due(1, "pass", 1).due(want, "filed", 1).due(want == 1 ? gap : NONE, "first");
            }
        }
        laid(gathering("n0;", 0, 0)).due(30, "pass", 30).due(0, "filed", 1);
    }

    private static void hadOneWhateverItWas() {
        checks.sentence("2: if they had one: lawful, unlawful, or with a LEAVE");
        laid(gathering("n1;l0,1;", 0, 0)).due(1, "pass", 1).due(0, "permit", 0, 1).due(1, "pass", 1).due(1, "filed", 1)
            .due(1, "pass", 1).due(2, "filed", 1);
        // one of another two is none of theirs
        laid("p0;p0;p0;h0,0,0,1,10;h1,0,0,1,0;h2,0,0,0,0;n9;").due(1, "pass", 1).due(10, "alter", 0, 0, 0)
            .due(1, "pass", 1).due(0, "filed", 1);
    }

    private static void noDaysAheadOfTheFirst() {
        checks.sentence("2: the N DAYS ahead: of DAY 0 there are none");
        laid(gathering("n9;", 0, 0)).due(0, "laws", 1, 9).due(1, "pass", 1).due(0, "filed", 1).due(1, "pass", 1)
            .due(1, "filed", 1).due(1, "first");
    }

    private static void fined() {
        checks.sentence("2: FINED is a FINE for each that was UNLAWFUL");
        laid(gathering("f0;", 0, 3)).due(30, "pass", 30).due(30, "filed", 1).due(0, "filed", 2);
        laid(gathering("", 0, 3)).due(30, "pass", 30).due(150, "filed", 2);
        laid(gathering("f20;", 0, 3)).due(30, "pass", 30).due(600, "filed", 2);
        // the most that there can be
        laid(gathering("f20;c6;", 3, 3, 3, 3, 3)).toDay(999).due(9990, "filed", 0).due(9990, "filed", 1)
            .due(199800, "filed", 2).due(0, "first").due(999, "often", 3, 4);
    }

    private static void lastEightUndone() {
        checks.sentence("2: UNDONE is the latest of these (the last 8 can be)");
        for (int changes = 0; changes <= 10; changes++) {
            int can = Math.min(changes, 8);
            Run leaves = fresh().times(changes, "permit", 0, 1).due(can, "count", 6);
            Run habits = fresh();
            for (int k = 0; k < changes; k++) {
                habits.due(k == 0 ? 5 : k - 1, "alter", 0, 0, k);
            }
            Run days = fresh().times(changes, "pass", 1).due(can, "count", 6);
            for (int left = can - 1; left >= 0; left--) {
                leaves.due(left, "undo");
                habits.due(left, "undo");
                days.due(left, "undo").due(left, "count", 6);
            }
            leaves.refused(NO, "undo").due((changes - can) % 2, "leave", 0, 1);
            habits.refused(NO, "undo").due(changes <= 8 ? 5 : changes - 9, "habit", 0, 0, 2);
            days.refused(NO, "undo").due(changes - can, "count", 1);
        }
    }

    private static void undoneIsTheLatest() {
        checks.sentence("2: A DAY goes by; a LEAVE is given, taken; the C of a HABIT is altered");
        laid(gathering("n1;", 0, 0, 3)).due(1, "permit", 0, 2).due(0, "permit", 2, 0).due(3, "pass", 1)
            .due(0, "alter", 1, 0, 10).due(10, "alter", 1, 0, 4).due(3, "pass", 1).due(5, "filed", 1)
            .due(5, "undo").due(2, "filed", 1).due(1, "count", 1).due(4, "undo").due(10, "habit", 1, 0, 2)
            .due(3, "undo").due(0, "habit", 1, 0, 2).due(0, "first").due(2, "undo").due(0, "filed", 0).due(NONE, "first")
            .due(0, "leave", 0, 2).due(1, "undo").due(1, "leave", 0, 2).due(0, "undo").due(0, "leave", 0, 2)
            .refused(NO, "undo");
        // to the C that it is already: altered, too
        fresh().due(5, "alter", 0, 0, 5).due(1, "count", 6).due(0, "undo").due(5, "habit", 0, 0, 2);
    }

    private static void eachOfTheLastEightIsItself() {
        checks.sentence("2: the last 8 can be UNDONE, each one being what it was");
        Run run = laid("p0;p0;p0;p0;p0;h4,3,1,2,4;h3,3,3,4,3;h0,0,1,2,0;h1,1,1,2,1;h2,2,1,2,2;");
        run.due(1, "permit", 0, 1).due(1, "permit", 0, 2).due(0, "alter", 0, 0, 10).due(1, "alter", 1, 1, 9)
            .due(0, "pass", 1).due(2, "alter", 2, 2, 8).due(1, "permit", 3, 4).due(3, "alter", 3, 3, 7)
            .due(1, "permit", 1, 4).due(4, "alter", 4, 3, 6).due(8, "count", 6);
        run.due(7, "undo").due(4, "habit", 4, 3, 2).due(1, "leave", 1, 4).due(6, "undo").due(0, "leave", 1, 4)
            .due(7, "habit", 3, 3, 2).due(5, "undo").due(3, "habit", 3, 3, 2).due(1, "leave", 3, 4).due(4, "undo")
            .due(0, "leave", 3, 4).due(8, "habit", 2, 2, 2).due(3, "undo").due(2, "habit", 2, 2, 2).due(1, "count", 1)
            .due(2, "undo").due(0, "count", 1).due(9, "habit", 1, 1, 2).due(1, "undo").due(1, "habit", 1, 1, 2)
            .due(10, "habit", 0, 0, 2).due(0, "undo").due(0, "habit", 0, 0, 2).refused(NO, "undo").due(1, "leave", 0, 1)
            .due(1, "leave", 0, 2);
    }

    private static void eachDayIsUndone() {
        checks.sentence("2: A DAY goes by: each of n can be UNDONE");
        laid(gathering("n1;", 0, 0)).due(7, "pass", 7).due(7, "count", 6).due(6, "undo").due(6, "count", 1)
            .due(6, "filed", 0).due(5, "filed", 1).due(6, "often", 0, 1);
        laid(gathering("n1;", 0, 0)).due(30, "pass", 30).due(8, "count", 6).times(7, "undo").due(0, "undo")
            .due(22, "count", 1).due(22, "filed", 0).due(21, "filed", 1).refused(NO, "undo").due(1, "pass", 1)
            .due(22, "filed", 1);
    }

    // ---- promises 9 to 16

    private static void passBounds() {
        checks.sentence("Promise 9: n (1 to 30) DAYS go by: how many COINCIDENCES were FILED on them. BAD");
        Run run = laid(gathering("", 0, 0, 0));
        run.refused(BAD, "pass", 0).due(3, "pass", 1).refused(BAD, "pass", 31).refused(BAD, "pass", -1).due(90, "pass", 30)
            .refused(BAD, "pass", Integer.MIN_VALUE).refused(BAD, "pass", Integer.MAX_VALUE).due(31, "count", 1)
            .due(93, "filed", 0);
    }

    private static void aboveTheLastDay() {
        checks.sentence("Promise 9: NO: above DAY 999");
        String two = gathering("n1;", 0, 0);
        laid(two).toDay(969).due(30, "pass", 30).due(999, "count", 1);
        laid(two).toDay(970).refused(NO, "pass", 30).due(29, "pass", 29).due(999, "count", 1).due(998, "filed", 1);
        laid(two).toDay(998).refused(NO, "pass", 2).due(1, "pass", 1).refused(NO, "pass", 1).refused(NO, "pass", 30)
            .due(999, "often", 0, 1).due(8, "count", 6).due(7, "undo").due(998, "count", 1).refused(NO, "pass", 2)
            .due(1, "pass", 1);
        checks.sentence("Promise 9: BAD ahead of NO");
        laid(two).toDay(999).refused(BAD, "pass", 0).refused(BAD, "pass", 31).refused(BAD, "pass", -1)
            .refused(BAD, "pass", Integer.MAX_VALUE).refused(BAD, "pass", Integer.MIN_VALUE).refused(NO, "pass", 1);
    }

    private static void permit() {
        checks.sentence("Promise 10: A LEAVE of two is given, or taken: 1 if they have it then, 0. BAD");
        Run run = laid(Towns.persons(0, 0, 0, 0, 0) + "l0,4;");
        for (int i = 0; i < 5; i++) {
            run.refused(BAD, "permit", i, i).refused(BAD, "permit", i, 5).refused(BAD, "permit", 5, i)
                .refused(BAD, "permit", i, -1).refused(BAD, "permit", -1, i);
        }
        run.refused(BAD, "permit", 5, 6).due(0, "count", 6);
        for (int i = 0; i < 5; i++) {
            for (int j = i + 1; j < 5; j++) {
                int want = i == 0 && j == 4 ? 0 : 1;
                run.due(want, "permit", j, i).due(want, "leave", i, j).due(1 - want, "permit", i, j).due(1 - want, "leave", j, i);
            }
        }
        run.due(8, "count", 6);
        laid("p0;").refused(BAD, "permit", 0, 0).refused(BAD, "permit", 0, 1);
        // it is minded from the next DAY on
        laid(gathering("", 0, 3)).due(1, "pass", 1).due(1, "permit", 0, 1).due(1, "pass", 1).due(1, "filed", 1)
            .due(0, "permit", 0, 1).due(1, "pass", 1).due(2, "filed", 1);
    }

    private static void alter() {
        checks.sentence("Promise 11: C of a HABIT is altered: what it was. BAD");
        Run run = laid("p0;p0;h1,3,1,2,10;h1,0,3,4,0;");
        run.refused(BAD, "alter", 1, 3, -1).refused(BAD, "alter", 1, 3, 11).due(10, "alter", 1, 3, 0)
            .due(0, "alter", 1, 3, 10).due(10, "habit", 1, 3, 2).due(0, "alter", 1, 0, 10).refused(BAD, "alter", 2, 3, 5)
            .refused(BAD, "alter", -1, 3, 5).refused(BAD, "alter", 1, 4, 5).refused(BAD, "alter", 1, -1, 5)
            .due(1, "habit", 1, 3, 0).due(2, "habit", 1, 3, 1).due(3, "count", 6);
        for (int c = 0; c <= 10; c++) {
            run.due(c == 0 ? 10 : c - 1, "alter", 1, 0, c).due(c, "habit", 1, 0, 2);
        }
        checks.sentence("Promise 11: NO: there is no such HABIT");
        for (int h = 0; h <= 3; h++) {
            run.refused(NO, "alter", 0, h, 0).refused(NO, "alter", 0, h, 10);
        }
        run.refused(NO, "alter", 1, 1, 5).refused(NO, "alter", 1, 2, 5).due(NONE, "habit", 1, 1, 2);
        checks.sentence("Promise 11: BAD ahead of NO");
        run.refused(BAD, "alter", 0, 0, 11).refused(BAD, "alter", 0, 0, -1).refused(BAD, "alter", 0, 4, 5);
    }

    private static void undo() {
        checks.sentence("Promise 12: UNDONE: how many more can be. NO");
        fresh().refused(NO, "undo").due(1, "permit", 0, 1).due(0, "undo").refused(NO, "undo");
        // what was refused cannot be undone
        fresh().due(BAD, "pass", 0).due(BAD, "pass", 31).due(BAD, "permit", 0, 0).due(BAD, "permit", 0, 4)
            .due(BAD, "alter", 0, 0, 11).due(NO, "alter", 0, 3, 5).refused(NO, "undo").due(0, "count", 6);
        fresh().toDay(999).times(8, "undo").due(991, "count", 1).due(NO, "undo").due(NO, "pass", 9).refused(NO, "undo");
        // what is undone is gone, and others come in its place
        fresh().times(8, "permit", 0, 1).due(7, "undo").due(6, "undo").due(5, "alter", 0, 0, 6).due(7, "count", 6)
            .due(6, "alter", 0, 0, 7).due(8, "count", 6).due(7, "alter", 0, 0, 8).due(8, "count", 6).times(3, "undo")
            .due(5, "habit", 0, 0, 2).times(4, "undo").due(0, "undo").due(1, "leave", 0, 1).refused(NO, "undo");
    }

    private static void undoLeavesTheRest() {
        checks.sentence("Promise 12: UNDONE is a DAY, a LEAVE, a C: no text, no stamp, nothing kept, no question");
        fresh().due(1, "permit", 0, 1).due(1, "write", 'p').due(1, "stamp", 0, 1, 2).due(1, "keep").due(1, "count", 6)
            .due(0, "undo").due(1, "count", 8).due(1, "count", 5).due(1, "count", 7).due(0, "leave", 0, 1).due(0, "back")
            .due(1, "leave", 0, 1).due(1, "wipe").due(1, "forget").due(0, "count", 6);
    }

    private static void where() {
        checks.sentence("Promise 13: Where a PERSON will be in an HOUR d (0 to 30) DAYS from now (0: the next one). BAD");
        Run run = laid("p0;p0;h1,3,5,5,0;h1,0,0,0,0;");
        run.still(5, "where", 1, 3, 0).still(5, "where", 1, 3, 30).still(0, "where", 1, 0, 30)
            .refused(BAD, "where", 1, 3, -1).refused(BAD, "where", 1, 3, 31).refused(BAD, "where", 2, 3, 0)
            .refused(BAD, "where", -1, 3, 0).refused(BAD, "where", 1, 4, 0).refused(BAD, "where", 1, -1, 0);
        checks.sentence("Promise 13: NONE: at home");
        for (int h = 0; h <= 3; h++) {
            run.still(NONE, "where", 0, h, 0).still(NONE, "where", 0, h, 30);
        }
        run.still(NONE, "where", 1, 1, 0).still(NONE, "where", 1, 2, 0);
        checks.sentence("Promise 13: BAD ahead of NONE");
        run.refused(BAD, "where", 0, 0, 31).refused(BAD, "where", 0, 0, -1).refused(BAD, "where", 0, 4, 0);
        checks.sentence("Promise 13: d DAYS from now are as far from any DAY");
        Run now = fresh();
        int[] foreseen = new int[31];
        for (int d = 0; d <= 30; d++) {
            foreseen[d] = now.call("where", 1, 1, d);
        }
        for (int d = 0; d <= 30; d++) {
            now.due(foreseen[d], "where", 1, 1, 0).call("pass", 1);
        }
    }

    private static void filed() {
        checks.sentence("Promise 14: FILED (what = 0), UNLAWFUL (1), FINED (2). BAD");
        Run run = laid(gathering("f7;", 0, 3, 1)).still(0, "filed", 0).still(0, "filed", 1).still(0, "filed", 2)
            .due(6, "pass", 2);
        run.still(6, "filed", 0).still(2, "filed", 1).still(14, "filed", 2).refused(BAD, "filed", 3)
            .refused(BAD, "filed", -1).refused(BAD, "filed", Integer.MIN_VALUE).refused(BAD, "filed", Integer.MAX_VALUE);
        // what was filed stays as it was then
        run.due(1, "permit", 0, 1).due(2, "filed", 1).due(14, "filed", 2).due(0, "alter", 0, 0, 9).due(6, "filed", 0);
    }

    private static void first() {
        checks.sentence("Promise 15: FIRST: the DAY on which the first UNLAWFUL one was, of those that went by. NONE");
        laid(gathering("", 0, 3)).still(NONE, "first").due(1, "pass", 1).still(0, "first").due(30, "pass", 30)
            .still(0, "first");
        laid(gathering("n1;", 0, 0)).due(1, "pass", 1).still(NONE, "first").due(1, "pass", 1).still(1, "first")
            .due(1, "undo").still(NONE, "first").due(1, "permit", 0, 1).due(5, "pass", 5).still(NONE, "first")
            .due(0, "permit", 0, 1).due(1, "pass", 1).still(6, "first").due(1, "pass", 1).due(7, "undo")
            .still(6, "first");
        // the last DAY that can go by
        laid(gathering("l0,1;", 0, 3)).toDay(998).still(NONE, "first").due(0, "permit", 0, 1).due(1, "pass", 1)
            .still(998, "first").due(7, "undo").still(NONE, "first");
        // COINCIDENCES that are all lawful
        laid(gathering("n0;", 0, 0)).due(30, "pass", 30).still(NONE, "first");
    }

    private static void often() {
        checks.sentence("Promise 16: OFTEN for two: how many COINCIDENCES they had. BAD");
        Run run = laid(gathering("c6;", 0, 0, 0, 0, 0)).due(10, "pass", 1).due(0, "alter", 4, 0, 10);
        for (int i = 0; i < 5; i++) {
            for (int j = 0; j < 5; j++) {
                run.still(i == j ? BAD : 1, "often", i, j);
            }
            run.refused(BAD, "often", i, 5).refused(BAD, "often", 5, i).refused(BAD, "often", i, -1)
                .refused(BAD, "often", -1, i);
        }
        laid("p0;").refused(BAD, "often", 0, 0).refused(BAD, "often", 0, 1);
        laid("p0;p0;").still(0, "often", 0, 1).due(0, "pass", 30).still(0, "often", 0, 1);
        laid(gathering("", 0, 0)).toDay(999).due(999, "often", 0, 1).due(999, "often", 1, 0).due(7, "undo")
            .due(998, "often", 0, 1);
    }
}
