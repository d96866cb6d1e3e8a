/** The document's section 3 and promises 17 to 22: each sentence that names a boundary case. */
public final class ChanceBoundTest {
    private static final int BAD = Run.BAD, NONE = Run.NONE;
    private static final Checks checks = new Checks();

    public static void main(String[] args) {
        crowdsNotMinded();
        lowestTermsOfTogether();
        lowestTermsOfMeets();
        lowestTermsOfMean();
        likelyOnAnyDay();
        enoughAlready();
        yOfTenOrMore();
        eitherWayWithinTen();
        firstOfSeveralAlterations();
        numberOfAnAlteration();
        noChangeDoesIt();
        leastOfAll();
        lowestWayToAvoid();
        othersWhereHeIs();
        firstOfSeveralToWatch();
        leastAndMostToWatch();
        together();
        meets();
        mean();
        least();
        avoid();
        watch();
        checks.end("ChanceBoundTest");
    }

    private static Run laid(String text) {
        return Run.laid(checks, text);
    }

    private static String gathering(String rest, int... kinds) {
        return Towns.gathering(rest, kinds);
    }

    /** Both in one HOUR, the first one at PLACE 1 or 2, the second one at 1 or otherwise. */
    private static Run pair(int cOfFirst, int otherOfSecond, int cOfSecond) {
        return laid("p0;p0;h0,0,1,2," + cOfFirst + ";h1,0,1," + otherOfSecond + "," + cOfSecond + ";");
    }

    private static void fraction(Run run, int above, int below, String name, int... numbers) {
        int[] withPart = java.util.Arrays.copyOf(numbers, numbers.length + 1);
        run.still(above, name, withPart);
        withPart[numbers.length] = 1;
        run.still(below, name, withPart);
    }

    // ---- section 3

    private static void crowdsNotMinded() {
        checks.sentence("3: CROWDS not minded");
        Run run = laid(gathering("c2;", 0, 0, 0, 0, 0)).due(0, "pass", 1);
        fraction(run, 1, 1, "together", 0, 4, 0);
        fraction(run, 1, 1, "meets", 0, 4);
        fraction(run, 10, 1, "mean");
        run.due(1000, "watch", 1).due(NONE, "least", 0, 4, 10, 0).due(0, "least", 0, 4, 10, 1);
    }

    private static void lowestTermsOfTogether() {
        checks.sentence("3: TOGETHER: how likely two are at one PLACE in an HOUR; all in lowest terms");
        fraction(pair(0, 3, 10), 0, 1, "together", 0, 1, 0);
        fraction(pair(10, 3, 10), 1, 1, "together", 0, 1, 0);
        fraction(pair(0, 2, 0), 1, 1, "together", 0, 1, 0);
        fraction(pair(1, 3, 1), 1, 100, "together", 0, 1, 0);
        fraction(pair(9, 3, 9), 81, 100, "together", 0, 1, 0);
        fraction(pair(5, 3, 4), 1, 5, "together", 0, 1, 0);
        // both at 1 and both at 2
        fraction(pair(5, 2, 5), 1, 2, "together", 0, 1, 0);
        fraction(pair(9, 2, 9), 41, 50, "together", 1, 0, 0);
        fraction(pair(10, 2, 0), 0, 1, "together", 0, 1, 0);
        // one of them, or both, at home
        fraction(pair(10, 2, 10), 0, 1, "together", 0, 1, 3);
        fraction(laid("p0;p0;h0,1,0,0,5;"), 0, 1, "together", 0, 1, 1);
        // A and B alike are one PLACE
        fraction(laid("p0;p0;h0,3,5,5,3;h1,3,5,5,7;"), 1, 1, "together", 0, 1, 3);
        fraction(laid("p0;p0;h0,3,5,5,3;h1,3,4,5,7;"), 3, 10, "together", 0, 1, 3);
    }

    private static String inAllHours(String first, String second) {
        StringBuilder text = new StringBuilder("p0;p0;");
        for (int h = 0; h <= 3; h++) {
            text.append("h0,").append(h).append(first).append("h1,").append(h).append(second);
        }
        return text.toString();
    }

    private static void lowestTermsOfMeets() {
        checks.sentence("3: MEETS: how likely in any; all in lowest terms");
        fraction(laid("p0;p0;"), 0, 1, "meets", 0, 1);
        fraction(pair(10, 3, 10), 1, 1, "meets", 0, 1);
        fraction(laid(inAllHours(",1,1,0;", ",1,1,0;")), 1, 1, "meets", 1, 0);
        // surely in HOUR 3 alone, and by half in HOUR 0
        fraction(laid("p0;p0;h0,0,1,2,5;h1,0,1,1,0;h0,3,4,4,0;h1,3,4,4,0;"), 1, 1, "meets", 0, 1);
        // 1 - (99/100)^4, 1 - (9/10)^4, 1 - (1/10)^4
        fraction(laid(inAllHours(",1,2,1;", ",1,3,1;")), 3940399, 100000000, "meets", 0, 1);
        fraction(laid(inAllHours(",1,2,1;", ",1,1,1;")), 3439, 10000, "meets", 0, 1);
        fraction(laid(inAllHours(",1,2,9;", ",1,1,1;")), 9999, 10000, "meets", 0, 1);
        fraction(laid(inAllHours(",1,2,5;", ",1,2,5;")), 15, 16, "meets", 0, 1);
        fraction(pair(1, 3, 1), 1, 100, "meets", 0, 1);
    }

    private static void lowestTermsOfMean() {
        checks.sentence("3: MEAN: how many twos are at one PLACE in the mean, in all HOURS, of all; all in lowest terms");
        fraction(laid("p0;"), 0, 1, "mean");
        fraction(laid("p0;h0,0,1,1,5;"), 0, 1, "mean");
        fraction(laid("p0;p0;p0;p0;p0;"), 0, 1, "mean");
        fraction(pair(1, 3, 1), 1, 100, "mean");
        fraction(pair(10, 3, 10), 1, 1, "mean");
        fraction(laid(inAllHours(",1,1,0;", ",1,1,0;")), 4, 1, "mean");
        fraction(laid(inAllHours(",1,2,9;", ",1,1,1;")), 18, 5, "mean");
        StringBuilder most = new StringBuilder("p0;p0;p0;p0;p0;");
        for (int slot = 0; slot < 15; slot++) {
            most.append('h').append(slot % 5).append(',').append(1 + slot / 5).append(",5,5,0;");
        }
        // as many as 200 letters can tell: five in three HOURS
        fraction(laid(most.toString()), 30, 1, "mean");
    }

    private static void likelyOnAnyDay() {
        checks.sentence("3: On any DAY, each being at A by C of ten for himself in each HOUR");
        Run run = laid("p0;p0;h0,0,1,2,5;h1,0,1,1,5;");
        run.due(1, "meets", 0, 1, 0).due(2, "meets", 0, 1, 1).toDay(999).due(1, "meets", 0, 1, 0).due(2, "meets", 0, 1, 1)
            .due(5, "alter", 0, 0, 0).due(0, "meets", 0, 1, 0).due(1, "meets", 0, 1, 1).due(0, "alter", 0, 0, 10)
            .due(1, "meets", 0, 1, 0).due(1, "meets", 0, 1, 1).due(7, "undo").due(0, "meets", 0, 1, 0);
    }

    private static void enoughAlready() {
        checks.sentence("3: If it is so already: none, and by 0");
        for (int tenths = 1; tenths <= 10; tenths++) {
            Run run = laid("p0;p0;h0,0,1,2," + tenths + ";h1,0,1,1,5;");
            for (int y = 1; y <= tenths; y++) {
                run.still(NONE, "least", 0, 1, y, 0).still(0, "least", 0, 1, y, 1);
            }
            for (int y = tenths + 1; y <= 10; y++) {
                run.still(y, "least", 0, 1, y, 0).still(y - tenths, "least", 0, 1, y, 1);
            }
        }
    }

    private static void yOfTenOrMore() {
        checks.sentence("3: by which MEETS is y of ten or more");
        // 9/100 is less than 1/10, 10/100 is not; 81/100 is 8 of ten or more, 72/100 is not
        pair(9, 3, 1).due(10, "least", 0, 1, 1, 0).due(1, "least", 0, 1, 1, 1);
        pair(10, 3, 1).due(NONE, "least", 0, 1, 1, 0).due(0, "least", 0, 1, 1, 1);
        pair(8, 3, 9).due(9, "least", 0, 1, 8, 0).due(1, "least", 0, 1, 8, 1);
        pair(9, 3, 9).due(NONE, "least", 0, 1, 8, 0).due(10, "least", 0, 1, 9, 0).due(NONE, "least", 0, 1, 10, 0)
            .due(NONE, "least", 0, 1, 10, 1);
        // 9999/10000 are no ten of ten
        laid(inAllHours(",1,2,9;", ",1,1,1;")).due(NONE, "least", 0, 1, 9, 0).due(10, "least", 0, 1, 10, 0)
            .due(1, "least", 0, 1, 10, 1);
    }

    private static void eitherWayWithinTen() {
        checks.sentence("3: the least change of C (either way, within 0 to 10)");
        // all the way up, all the way down
        laid("p0;p0;h0,0,1,2,0;h1,0,1,1,5;").due(10, "least", 0, 1, 10, 0).due(10, "least", 0, 1, 10, 1)
            .due(1, "least", 0, 1, 1, 0).due(1, "least", 0, 1, 1, 1);
        laid("p0;p0;h0,0,2,1,10;h1,0,1,1,5;").due(0, "least", 0, 1, 10, 0).due(10, "least", 0, 1, 10, 1)
            .due(9, "least", 0, 1, 1, 0).due(1, "least", 0, 1, 1, 1);
        // an end is the end: C 10 and 0 that would have to go on
        pair(10, 3, 5).due(1006, "least", 0, 1, 6, 0).due(1, "least", 0, 1, 6, 1);
        laid("p0;p0;h0,0,2,1,0;h1,0,3,1,5;").due(1004, "least", 0, 1, 6, 0).due(1, "least", 0, 1, 6, 1);
        // a C of 11 or of -1 would do it by as little and come first: 1 - 50/100 times 64/100 is 68/100
        laid("p0;p0;h0,0,1,2,10;h1,0,1,3,5;h0,1,1,2,6;h1,1,1,3,6;").due(107, "least", 0, 1, 7, 0)
            .due(1, "least", 0, 1, 7, 1);
        laid("p0;p0;h0,0,2,1,0;h1,0,3,1,5;h0,1,1,2,6;h1,1,1,3,6;").due(107, "least", 0, 1, 7, 0)
            .due(1, "least", 0, 1, 7, 1);
    }

    private static void firstOfSeveralAlterations() {
        checks.sentence("3: of several the first (by PERSON, then HOUR, then the lower C)");
        // both can come by one tenth: PERSON 0 is the first one, whoever is named first
        pair(5, 3, 5).due(8, "least", 0, 1, 4, 0).due(8, "least", 1, 0, 4, 0).due(3, "least", 0, 1, 4, 1);
        laid("p0;p0;p0;p0;p0;h3,0,1,2,5;h4,0,1,3,5;").due(3008, "least", 4, 3, 4, 0).due(3008, "least", 3, 4, 4, 0);
        // two HOURS alike: the first one; PERSON ahead of HOUR
        laid("p0;p0;h0,1,1,2,5;h1,1,1,1,0;h0,3,1,2,5;h1,3,1,1,0;").due(106, "least", 0, 1, 8, 0).due(1, "least", 0, 1, 8, 1);
        laid("p0;p0;h0,3,1,2,5;h1,3,1,1,0;h1,0,1,2,5;h0,0,1,1,0;").due(306, "least", 0, 1, 8, 0)
            .due(306, "least", 1, 0, 8, 0);
        // lower by one or higher by one: the way that does it
        laid("p0;p0;h0,0,1,2,5;h1,0,2,2,5;").due(4, "least", 0, 1, 6, 0);
        laid("p0;p0;h0,0,1,2,5;h1,0,1,1,5;").due(6, "least", 0, 1, 6, 0);
        // a less change of a later PERSON and HOUR goes ahead
        laid("p0;p0;h0,0,1,2,2;h1,0,1,1,0;h1,3,4,5,5;h0,3,4,4,0;").due(1308, "least", 0, 1, 8, 0)
            .due(3, "least", 0, 1, 8, 1);
    }

    private static void numberOfAnAlteration() {
        checks.sentence("3: 1000 times the PERSON, 100 times the HOUR and the new C; by how much");
        String five = "p0;p0;p0;p0;p0;";
        laid(five + "h3,3,1,1,5;h4,3,1,2,5;").due(4310, "least", 3, 4, 10, 0).due(5, "least", 3, 4, 10, 1);
        laid(five + "h3,3,1,1,5;h4,3,2,1,5;").due(4300, "least", 3, 4, 10, 0).due(5, "least", 4, 3, 10, 1);
        laid(five + "h0,0,2,1,5;h4,0,1,1,5;").due(0, "least", 4, 0, 10, 0).due(5, "least", 0, 4, 10, 1);
        // by how much is reckoned from his own C, not from another one's
        laid(five + "h0,0,1,1,5;h1,0,2,1,7;").due(1000, "least", 0, 1, 10, 0).due(7, "least", 0, 1, 10, 1);
        laid(five + "h3,0,1,1,5;h4,0,2,1,8;").due(4000, "least", 3, 4, 10, 0).due(8, "least", 3, 4, 10, 1);
        laid(five + "h2,1,1,2,0;h4,1,1,1,0;").due(2101, "least", 4, 2, 1, 0).due(1, "least", 2, 4, 1, 1);
    }

    private static void noChangeDoesIt() {
        checks.sentence("3: none, if no change does it");
        // no HABITS, no common PLACE, A and B alike, half by half
        for (int y = 1; y <= 10; y++) {
            laid("p0;p0;").still(NONE, "least", 0, 1, y, 0).still(NONE, "least", 0, 1, y, 1);
            laid("p0;p0;h0,0,1,2,5;h1,0,3,4,5;h0,1,1,1,5;").still(NONE, "least", 0, 1, y, 0).still(NONE, "least", 0, 1, y, 1);
        }
        laid("p0;p0;h0,0,1,2,5;h1,0,1,2,5;").still(NONE, "least", 0, 1, 5, 0).still(0, "least", 0, 1, 5, 1)
            .still(NONE, "least", 0, 1, 6, 0).still(NONE, "least", 0, 1, 6, 1);
    }

    private static void leastOfAll() {
        checks.sentence("3: of one HABIT of one of them");
        // of two HABITS together it would do, and of a third PERSON's none counts
        laid("p0;p0;p0;h0,0,1,2,0;h1,0,1,3,0;h2,0,1,1,0;").still(NONE, "least", 0, 1, 1, 0).still(1, "least", 0, 2, 1, 0)
            .still(1001, "least", 1, 2, 1, 0);
    }

    private static void lowestWayToAvoid() {
        checks.sentence("3: AVOID: bits by HOURS: 1 at B, else at A; of several the lowest");
        laid("p0;").still(0, "avoid", 0);
        laid("p0;h0,0,1,2,5;h0,3,1,2,5;").still(0, "avoid", 0);
        // as many at A as at B, nobody at either, A and B alike
        laid("p0;p0;h0,0,1,2,5;h1,0,1,2,5;h0,1,3,4,5;h0,2,5,5,5;h1,2,5,5,5;").still(0, "avoid", 0);
        // every way is the best one once
        for (int way = 0; way <= 15; way++) {
            StringBuilder text = new StringBuilder("p0;p0;");
            for (int h = 0; h <= 3; h++) {
                int crowded = (way >> h & 1) == 1 ? 1 : 2;
                text.append("h0,").append(h).append(",1,2,5;h1,").append(h).append(',').append(crowded).append(",3,1;");
            }
            laid(text.toString()).still(way, "avoid", 0);
        }
        // fewer by one tenth is fewer
        laid("p0;p0;h0,3,1,2,5;h1,3,1,2,6;").still(8, "avoid", 0).due(6, "alter", 1, 3, 5).still(0, "avoid", 0)
            .due(5, "alter", 1, 3, 4).still(0, "avoid", 0);
    }

    private static void othersWhereHeIs() {
        checks.sentence("3: AVOID: of ways to go surely that by which the others are fewest in the mean where he is");
        // his own C and his being there are nothing; two by half are as many as one surely
        laid("p0;p0;p0;h0,0,1,2,10;h1,0,1,3,5;h2,0,1,4,5;").still(1, "avoid", 0);
        laid("p0;p0;p0;p0;h0,0,1,2,10;h1,0,1,3,5;h2,0,1,4,5;h3,0,2,2,0;").still(0, "avoid", 0);
        laid("p0;p0;h0,0,1,2,10;h1,0,2,3,1;").still(0, "avoid", 0).still(0, "avoid", 1);
        laid("p0;p0;p0;p0;p0;h4,3,0,5,0;h0,3,0,0,0;").still(8, "avoid", 4);
    }

    private static void firstOfSeveralToWatch() {
        checks.sentence("3: WATCH: the HOUR and PLACE at which twos are most in the mean, of several the first");
        laid("p0;p0;h0,0,1,2,5;h1,0,2,1,5;").still(1, "watch", 0).still(25, "watch", 1);
        laid("p0;p0;h0,3,1,1,5;h1,3,1,1,5;h0,1,5,5,5;h1,1,5,5,5;").still(11, "watch", 0).still(100, "watch", 1);
        laid("p0;p0;p0;p0;h0,2,4,4,5;h1,2,4,4,5;h2,2,3,3,5;h3,2,3,3,5;").still(15, "watch", 0);
        // at PLACES 1 and 2 there are 25 and 25, then 20 and 30, then 30 and 20
        laid("p0;p0;h0,0,1,2,5;h1,0,1,2,5;").still(1, "watch", 0).due(5, "alter", 0, 0, 4).still(2, "watch", 0)
            .still(30, "watch", 1).due(4, "alter", 0, 0, 6).still(1, "watch", 0).still(30, "watch", 1);
    }

    private static void leastAndMostToWatch() {
        checks.sentence("3: WATCH: 6 times the HOUR and the PLACE; as much as above (below is 100, not in lowest terms)");
        laid("p0;").still(0, "watch", 0).still(0, "watch", 1);
        laid("p0;p0;h0,3,5,5,0;").still(0, "watch", 0).still(0, "watch", 1);
        laid("p0;p0;h0,3,5,4,1;h1,3,5,3,1;").still(23, "watch", 0).still(1, "watch", 1);
        laid("p0;p0;h0,0,0,0,0;h1,0,0,0,0;").still(0, "watch", 0).still(100, "watch", 1);
        laid("p0;p0;p0;p0;p0;h0,3,5,5,0;h1,3,5,5,0;h2,3,5,5,0;h3,3,5,5,0;h4,3,5,5,0;").still(23, "watch", 0)
            .still(1000, "watch", 1);
    }

    // ---- promises 17 to 22

    private static void together() {
        checks.sentence("Promise 17: TOGETHER: above (part = 0), below (1). BAD");
        Run run = laid(gathering("", 0, 0, 0, 0));
        run.still(1, "together", 0, 3, 0, 0).still(1, "together", 3, 0, 0, 1).still(0, "together", 0, 3, 3, 0)
            .still(1, "together", 0, 3, 3, 1).refused(BAD, "together", 0, 3, 0, 2).refused(BAD, "together", 0, 3, 0, -1)
            .refused(BAD, "together", 0, 3, 4, 0).refused(BAD, "together", 0, 3, -1, 0).refused(BAD, "together", 0, 4, 0, 0)
            .refused(BAD, "together", 4, 0, 0, 0).refused(BAD, "together", -1, 0, 0, 0).refused(BAD, "together", 0, -1, 0, 0)
            .refused(BAD, "together", 3, 3, 0, 0).refused(BAD, "together", 4, 4, 0, 0);
    }

    private static void meets() {
        checks.sentence("Promise 18: MEETS: above (part = 0), below (1). BAD");
        Run run = laid(gathering("", 0, 0, 0));
        run.still(1, "meets", 0, 2, 0).still(1, "meets", 2, 0, 1).refused(BAD, "meets", 0, 2, 2)
            .refused(BAD, "meets", 0, 2, -1).refused(BAD, "meets", 0, 3, 0).refused(BAD, "meets", 3, 0, 0)
            .refused(BAD, "meets", -1, 0, 0).refused(BAD, "meets", 0, -1, 0).refused(BAD, "meets", 2, 2, 0);
        laid("p0;").refused(BAD, "meets", 0, 0, 0).refused(BAD, "meets", 0, 1, 0);
    }

    private static void mean() {
        checks.sentence("Promise 19: MEAN: above (part = 0), below (1). BAD");
        laid(gathering("", 0, 0)).still(1, "mean", 0).still(1, "mean", 1).refused(BAD, "mean", 2).refused(BAD, "mean", -1)
            .refused(BAD, "mean", Integer.MIN_VALUE).refused(BAD, "mean", Integer.MAX_VALUE);
    }

    private static void least() {
        checks.sentence("Promise 20: ALTER for two and y (1 to 10): which (what = 0; NONE), by how much (1). BAD");
        Run run = laid("p0;p0;p0;h0,0,1,2,0;h2,0,1,1,0;");
        run.still(1, "least", 0, 2, 1, 0).still(1, "least", 0, 2, 1, 1).still(10, "least", 2, 0, 10, 0)
            .still(10, "least", 2, 0, 10, 1).refused(BAD, "least", 0, 2, 0, 0).refused(BAD, "least", 0, 2, 11, 0)
            .refused(BAD, "least", 0, 2, -1, 1).refused(BAD, "least", 0, 2, 1, 2).refused(BAD, "least", 0, 2, 1, -1)
            .refused(BAD, "least", 0, 3, 1, 0).refused(BAD, "least", 3, 0, 1, 0).refused(BAD, "least", -1, 0, 1, 0)
            .refused(BAD, "least", 0, -1, 1, 0).refused(BAD, "least", 2, 2, 1, 0);
        checks.sentence("Promise 20: BAD ahead of NONE");
        run.refused(NONE, "least", 0, 1, 1, 0).refused(NONE, "least", 0, 1, 1, 1).refused(BAD, "least", 0, 1, 1, 2)
            .refused(BAD, "least", 0, 1, 11, 0).refused(BAD, "least", 0, 1, 0, 0).refused(BAD, "least", 1, 1, 1, 0);
    }

    private static void avoid() {
        checks.sentence("Promise 21: AVOID, as bits. BAD");
        laid(gathering("", 0, 0)).still(0, "avoid", 0).still(0, "avoid", 1).refused(BAD, "avoid", 2)
            .refused(BAD, "avoid", -1).refused(BAD, "avoid", Integer.MIN_VALUE).refused(BAD, "avoid", Integer.MAX_VALUE);
        laid("p0;p0;p0;p0;p0;").still(0, "avoid", 4).refused(BAD, "avoid", 5);
    }

    private static void watch() {
        checks.sentence("Promise 22: WATCH: where and when (what = 0), as much (1). BAD");
        laid(gathering("", 0, 0)).still(0, "watch", 0).still(100, "watch", 1).refused(BAD, "watch", 2)
            .refused(BAD, "watch", -1).refused(BAD, "watch", Integer.MIN_VALUE).refused(BAD, "watch", Integer.MAX_VALUE);
    }
}
