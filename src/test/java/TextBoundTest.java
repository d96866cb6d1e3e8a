/** The document's section 1 and promises 1 to 8: each sentence that names a boundary case. */
public final class TextBoundTest {
    private static final int BAD = Run.BAD, NO = Run.NO, FULL = Run.FULL, NONE = Run.NONE;
    /** Two persons told ahead, so that every item can follow. */
    private static final String TWO = "p0;p0;";
    private static final String[] ITEMS = {"p0;", "h0,0,0,0,0;", "l0,1;", "n3;", "c4;", "f5;", "z2;"};
    private static final Checks checks = new Checks();

    public static void main(String[] args) {
        atMostTwoHundred();
        faultInTheLastLetters();
        oneOrTwoFigures();
        partedByCommas();
        endedBySemicolon();
        asManyNumbersAsTold();
        noOtherLetter();
        kindsAreFour();
        fivePersonsAtMost();
        habitOfPersonToldAhead();
        habitNumbers();
        alikeToo();
        noHabitIsAtHome();
        lastHabitOfEach();
        leaveOfToldUnlike();
        ban();
        crowd();
        fine();
        seed();
        firstFaultOfSeveral();
        aPersonAtLeast();
        newObject();
        letters();
        full();
        wipe();
        faultNone();
        layFromFull();
        layAfterOthers();
        layRefused();
        layTwice();
        habit();
        kind();
        leave();
        checks.end("TextBoundTest");
    }

    private static Run fresh() {
        return new Run(checks);
    }

    private static Run written(String text) {
        return Run.written(checks, text);
    }

    private static Run laid(String text) {
        return Run.laid(checks, text);
    }

    private static void fault(String text, int want) {
        checks.due("fault of " + text, written(text).call("fault"), want);
    }

    /** The item behind two persons is right, or it is the fault. */
    private static void item(String item, boolean right) {
        fault(TWO + item, right ? NONE : TWO.length());
    }

    /** Each number of one or two figures in the place of the %s is right from low to high alone. */
    private static void bounds(String item, int low, int high) {
        for (int number = 0; number <= 99; number++) {
            boolean right = number >= low && number <= high;
            item(String.format(item, number), right);
            item(String.format(item, String.format("%02d", number)), right);
        }
        item(String.format(item, 100), false);
        item(String.format(item, "-1"), false);
    }

    // ---- section 1

    private static void atMostTwoHundred() {
        checks.sentence("1: A TEXT is letters (200 at most)");
        String text = TWO + "l0,1;" + "n1;".repeat(62) + "n7;";
        checks.due("letters of it", text.length(), 200);
        written(text).due(200, "count", 8).still(NONE, "fault").due(2, "lay").due(7, "count", 2)
            .due(1, "leave", 0, 1).due(200, "count", 8);
        written(text).refused(FULL, "write", 'n').due(NONE, "fault").due(2, "lay").due(7, "count", 2);
        written(text.substring(0, 199)).due(197, "fault").due(200, "write", ';').due(NONE, "fault");
    }

    private static void faultInTheLastLetters() {
        checks.sentence("1: an ITEM that the 200 letters cut off is not so");
        String text = TWO + "z10;" + "n1;".repeat(63);
        written(text).due(199, "count", 8).due(NONE, "fault").due(200, "write", 'n').due(199, "fault")
            .refused(FULL, "write", '7').due(199, "fault").refused(NO, "lay");
        fault(TWO + "l0,1;" + "n1;".repeat(62) + "q1;", 197);
        fault("~".repeat(200), 0);
        fault("n1;".repeat(66) + "n1", 198);
    }

    private static void oneOrTwoFigures() {
        checks.sentence("1: numbers (one or two figures)");
        for (String item : ITEMS) {
            for (int at = 1; at < item.length(); at += 2) {
                String ahead = item.substring(0, at);
                String figure = item.substring(at, at + 1);
                String behind = item.substring(at + 1);
                item(item, true);
                item(ahead + behind, false);
                item(ahead + "0" + figure + behind, true);
                item(ahead + "00" + figure + behind, false);
                item(ahead + "0".repeat(9) + figure + behind, false);
                item(ahead + "-" + figure + behind, false);
                item(ahead + "+" + figure + behind, false);
                item(ahead + " " + figure + behind, false);
                item(ahead + figure + " " + behind, false);
                item(ahead + figure + "." + behind, false);
            }
        }
        // the letters next to 0 and 9 are no figures
        item("z/;", false);
        item("z:;", false);
        item("z9/;", false);
        item("z9:;", false);
    }

    private static void partedByCommas() {
        checks.sentence("1: numbers parted by ,");
        for (String item : ITEMS) {
            for (int at = 2; at < item.length() - 1; at += 2) {
                String ahead = item.substring(0, at);
                String behind = item.substring(at + 1);
                item(ahead + behind, false);
                item(ahead + ",," + behind, false);
                item(ahead + ";" + behind, false);
                item(ahead + "." + behind, false);
                item(ahead + " " + behind, false);
            }
        }
        item("n,3;", false);
        item("n3,;", false);
    }

    private static void endedBySemicolon() {
        checks.sentence("1: and a ; behind the last one");
        for (String item : ITEMS) {
            String bare = item.substring(0, item.length() - 1);
            item(bare, false);
            item(bare + ",", false);
            item(bare + ":", false);
            item(bare + " ;", false);
            item(bare + "n3;", false);
            fault(TWO + item + ";", TWO.length() + item.length());
            fault(TWO + item + " ", TWO.length() + item.length());
            for (int cut = 1; cut < item.length(); cut++) {
                item(item.substring(0, cut), false);
            }
        }
    }

    private static void asManyNumbersAsTold() {
        checks.sentence("1: each a letter, then numbers");
        for (String item : ITEMS) {
            String bare = item.substring(0, item.length() - 1);
            item(bare + ",0;", false);
            item(bare + ",1;", false);
            item(item.substring(0, 1) + ";", false);
            item(item.substring(1), false);
            if (bare.length() > 2) {
                item(bare.substring(0, bare.length() - 2) + ";", false);
            }
        }
    }

    private static void noOtherLetter() {
        checks.sentence("1: ITEMS: pK, hI,H,A,B,C, lI,J, nN, cC, fF, zS");
        for (int letter = 32; letter <= 126; letter++) {
            item((char) letter + "2;", "pncfz".indexOf(letter) >= 0);
            item((char) letter + "0,1;", letter == 'l');
            item((char) letter + "0,1,1,1,1;", letter == 'h');
        }
    }

    private static void kindsAreFour() {
        checks.sentence("1: pK a PERSON of KIND K (0 PLAIN, 1 CLERK, 2 TWIN, 3 STRANGER)");
        bounds("p%s;", 0, 3);
        Run run = laid("p0;p1;p2;p3;");
        for (int kind = 0; kind <= 3; kind++) {
            run.due(kind, "kind", kind);
        }
    }

    private static void fivePersonsAtMost() {
        checks.sentence("1: 5 at most, 0, 1, ..");
        fault("p0;".repeat(5), NONE);
        fault("p0;".repeat(6), 15);
        fault("p0;".repeat(66), 15);
        fault("p0;".repeat(5) + "n3;p0;n99;", 18);
        written("p0;".repeat(6)).refused(NO, "lay");
        for (int persons = 1; persons <= 5; persons++) {
            Run run = written("p1;".repeat(persons)).due(persons, "lay").due(persons, "count", 0);
            run.due(1, "kind", persons - 1).refused(BAD, "kind", persons).refused(BAD, "kind", -1);
        }
    }

    private static void habitOfPersonToldAhead() {
        checks.sentence("1: hI,H,A,B,C the HABIT of PERSON I (told ahead)");
        bounds("h%s,0,0,0,0;", 0, 1);
        fault("h0,0,0,0,0;p0;", 0);
        fault("p0;h1,0,0,0,0;p0;", 3);
        fault("p0;p0;h1,0,0,0,0;", NONE);
        fault("p0;".repeat(5) + "h4,0,0,0,0;", NONE);
        fault("p0;".repeat(5) + "h5,0,0,0,0;", 15);
    }

    private static void habitNumbers() {
        checks.sentence("1: in HOUR H (0 to 3): at PLACE A (0 to 5) by C (0 to 10) of ten, else at B (0 to 5)");
        bounds("h0,%s,0,0,0;", 0, 3);
        bounds("h0,0,%s,0,0;", 0, 5);
        bounds("h0,0,0,%s,0;", 0, 5);
        bounds("h0,0,0,0,%s;", 0, 10);
        laid("p0;h0,3,5,0,10;h0,0,0,5,0;").due(5, "habit", 0, 3, 0).due(0, "habit", 0, 3, 1).due(10, "habit", 0, 3, 2)
            .due(0, "habit", 0, 0, 0).due(5, "habit", 0, 0, 1).due(0, "habit", 0, 0, 2)
            .due(5, "where", 0, 3, 0).due(5, "where", 0, 0, 0);
    }

    private static void alikeToo() {
        checks.sentence("1: B (0 to 5; alike A, too)");
        for (int place = 0; place <= 5; place++) {
            Run run = laid("p0;h0,1," + place + "," + place + ",5;");
            run.due(place, "habit", 0, 1, 0).due(place, "habit", 0, 1, 1).due(5, "habit", 0, 1, 2);
            for (int d = 0; d <= 30; d++) {
                run.due(place, "where", 0, 1, d);
            }
        }
    }

    private static void noHabitIsAtHome() {
        checks.sentence("1: who has none is at home, where nobody meets");
        laid("p0;p0;p0;h2,0,0,0,0;").due(NONE, "where", 0, 0, 0).due(NONE, "where", 0, 3, 30).due(0, "pass", 30)
            .due(0, "often", 0, 1).due(0, "often", 0, 2).due(0, "together", 0, 1, 0, 0).due(0, "meets", 0, 1, 0)
            .due(0, "mean", 0).due(NONE, "ahead", 0, 1, 30).due(0, "laws", 30, 9).due(0, "avoid", 0).due(1, "ways", 0)
            .due(0, "sure", 1, 0);
        // those at home are no part of a CROWD
        laid("p0;p0;p0;p0;p0;h3,0,0,0,0;h4,0,0,0,0;c3;").due(1, "pass", 1).due(1, "often", 3, 4);
    }

    private static void lastHabitOfEach() {
        checks.sentence("1: the HABIT of PERSON I in HOUR H (the last one of each)");
        laid("p0;p0;h0,1,1,2,3;h1,1,5,5,5;h0,2,4,4,4;h0,1,3,0,7;").due(3, "habit", 0, 1, 0).due(0, "habit", 0, 1, 1)
            .due(7, "habit", 0, 1, 2).due(5, "habit", 1, 1, 0).due(4, "habit", 0, 2, 0).due(NONE, "habit", 0, 0, 0);
        // one that is not so is a FAULT, though a later one is
        fault("p0;h0,0,6,0,0;h0,0,5,0,0;", 3);
    }

    private static void leaveOfToldUnlike() {
        checks.sentence("1: lI,J PERSONS I, J (told ahead, unlike) have a LEAVE");
        bounds("l0,%s;", 1, 1);
        bounds("l1,%s;", 0, 0);
        bounds("l%s,0;", 1, 1);
        bounds("l%s,1;", 0, 0);
        fault("l0,1;p0;p0;", 0);
        fault("p0;l0,1;p0;", 3);
        fault("p0;l0,0;", 3);
        String five = "p0;".repeat(5);
        fault(five + "l4,4;", 15);
        fault(five + "l4,5;", 15);
        fault(five + "l5,4;", 15);
        laid(five + "l4,3;l0,4;l0,4;").due(1, "leave", 3, 4).due(1, "leave", 4, 3).due(1, "leave", 4, 0)
            .due(0, "leave", 0, 3).due(0, "leave", 0, 1).due(0, "leave", 1, 4);
    }

    private static void number(String letter, int what, int low, int high, int without) {
        bounds(letter + "%s;", low, high);
        laid("p0;").due(without, "count", what);
        laid("p0;" + letter + low + ";").due(low, "count", what);
        laid(letter + high + ";p0;").due(high, "count", what);
        laid(letter + high + ";p0;" + letter + low + ";").due(low, "count", what);
        laid("p0;" + letter + low + ";" + letter + high + ";").due(high, "count", what);
        fault(letter + (high + 1) + ";" + letter + high + ";p0;", 0);
        fault(letter + high + ";" + letter + (high + 1) + ";p0;", 2 + String.valueOf(high).length());
        // what the text ahead told is gone, if the new one is without
        laid("p0;" + letter + high + ";").due(5 + String.valueOf(high).length(), "wipe").lay("p0;")
            .due(without, "count", what);
    }

    private static void ban() {
        checks.sentence("1: nN two that met may not meet again for N (0 to 9) days (3 without; the last one)");
        number("n", 2, 0, 9, 3);
    }

    private static void crowd() {
        checks.sentence("1: cC C (2 to 6) at a PLACE are a CROWD (4 without; the last one)");
        number("c", 3, 2, 6, 4);
    }

    private static void fine() {
        checks.sentence("1: fF a FINE is F (0 to 20; 5 without; the last one)");
        number("f", 4, 0, 20, 5);
    }

    /** On DAY 0 the DRAW of PERSON 0 in HOUR 0 is 0 by SEED 0, 9 by 8 and 2 by 99 (x being 1, 63353 and 783982). */
    private static void drawOfDayZero(String seeds, int draw) {
        laid("p0;h0,0,1,2," + draw + ";" + seeds).due(2, "where", 0, 0, 0);
        laid(seeds + "p0;h0,0,1,2," + (draw + 1) + ";").due(1, "where", 0, 0, 0);
    }

    private static void seed() {
        checks.sentence("1: zS the SEED of draws, S (0 to 99; 0 without; the last one)");
        bounds("z%s;", 0, 99);
        fault("z100;p0;", 0);
        drawOfDayZero("", 0);
        drawOfDayZero("z0;", 0);
        drawOfDayZero("z8;", 9);
        drawOfDayZero("z99;", 2);
        drawOfDayZero("z8;z99;", 2);
        drawOfDayZero("z99;z8;z0;", 0);
    }

    private static void firstFaultOfSeveral() {
        checks.sentence("1: FAULT: the place of the first letter of the first ITEM that is not so");
        fault("p4;h9,9,9,9,9;", 0);
        fault("p0;p4;n10;", 3);
        fault("p0;h0,0,0,0,11;", 3);
        fault("p0;n3;n10;c7;", 6);
        fault("p0;h0,0,0,0,0;h0,0,0,0,1", 14);
        fault("p0;n3", 3);
        fault("p0;n3;x", 6);
        fault(" p0;", 0);
        fault("p0;\u0020n3;", 3);
        for (int ahead = 0; ahead <= 65; ahead++) {
            fault("n3;".repeat(ahead) + "c7;c7", 3 * ahead);
        }
    }

    private static void aPersonAtLeast() {
        checks.sentence("LAID is a TEXT without FAULT, of a PERSON at least (NO else)");
        fresh().refused(NO, "lay");
        written("n3;").due(NONE, "fault").refused(NO, "lay");
        written("n3;c4;f5;z2;").due(NONE, "fault").refused(NO, "lay");
        written("p0;").due(NONE, "fault").due(1, "lay").due(1, "count", 0);
        written("p0;p").due(3, "fault").refused(NO, "lay").due(5, "write", '3').refused(NO, "lay").due(6, "write", ';')
            .due(2, "lay");
        written("p0;".repeat(5)).due(5, "lay");
    }

    // ---- promises 1 to 8

    private static void newObject() {
        checks.sentence("Promise 1: As told (at first p0;p0;p2;p3; ..)");
        int[][] habits = {{0, 0, 1, 2, 5}, {0, 1, 3, 3, 0}, {1, 0, 1, 4, 4}, {1, 1, 3, 0, 7}, {2, 0, 2, 1, 5},
            {2, 2, 5, 5, 1}, {3, 0, 1, 1, 9}, {3, 2, 5, 0, 2}};
        int[] kinds = {0, 0, 2, 3};
        int[] counts = {4, 0, 3, 4, 5, 0, 0, 0, 0};
        Run run = fresh();
        boolean[] has = new boolean[16];
        for (int[] t : habits) {
            has[4 * t[0] + t[1]] = true;
            for (int what = 0; what <= 2; what++) {
                run.due(t[what + 2], "habit", t[0], t[1], what);
            }
        }
        for (int slot = 0; slot < 16; slot++) {
            if (!has[slot]) {
                run.due(NONE, "habit", slot / 4, slot % 4, 0);
            }
        }
        for (int i = 0; i < 4; i++) {
            run.due(kinds[i], "kind", i);
            for (int j = 0; j < 4; j++) {
                run.due(i == j ? BAD : i + j == 3 && i * j == 0 ? 1 : 0, "leave", i, j);
            }
        }
        for (int what = 0; what <= 8; what++) {
            run.due(counts[what], "count", what);
        }
        for (int what = 0; what <= 2; what++) {
            run.due(0, "filed", what);
        }
        run.refused(BAD, "kind", 4).still(NONE, "first").still(NONE, "fault").refused(NO, "undo").refused(NO, "back")
            .refused(NO, "lay").still(0, "forget").still(0, "wipe");
        // the seed is 2: x is 15839, its square leaves 59533 by 65521, and 59533 / 8 is 7441, cut: a DRAW of 1
        fresh().due(5, "alter", 0, 0, 1).due(2, "where", 0, 0, 0).due(1, "alter", 0, 0, 2).due(1, "where", 0, 0, 0);
    }

    private static void letters() {
        checks.sentence("Promise 2: A letter (32 to 126, as in ASCII); BAD");
        Run run = fresh();
        for (int letter = 32; letter <= 126; letter++) {
            run.due(letter - 31, "write", letter);
        }
        for (int letter : new int[] {31, 127, 0, -1, 10, 255, 32 + 256, 112 + 65536, Integer.MIN_VALUE, Integer.MAX_VALUE}) {
            run.refused(BAD, "write", letter);
        }
        run.due(95, "count", 8);
    }

    private static void full() {
        checks.sentence("Promise 2: comes behind THE TEXT: how long it is; FULL");
        Run run = fresh();
        for (int size = 1; size <= 200; size++) {
            run.due(size, "write", "p0;".charAt((size - 1) % 3));
        }
        run.refused(FULL, "write", ';').refused(FULL, "write", 32).refused(FULL, "write", 126)
            .refused(BAD, "write", 31).refused(BAD, "write", 127).due(200, "count", 8);
    }

    private static void wipe() {
        checks.sentence("Promise 3: THE TEXT is empty: how long it was");
        fresh().still(0, "wipe").still(0, "wipe").due(1, "write", 'p').due(1, "wipe").due(0, "wipe").due(0, "count", 8);
        Run run = fresh();
        run.times(200, "write", 'a').due(FULL, "write", 'a').due(200, "wipe").due(NONE, "fault").due(0, "count", 8)
            .due(1, "write", 'p').due(2, "write", '0').due(3, "write", ';').due(NONE, "fault");
        run.times(197, "write", 'b').due(FULL, "write", 'b').due(3, "fault");
        // what is laid stays, and all that was done in it
        laid("p3;p1;l0,1;n7;").times(3, "pass", 1).times(1, "keep").times(2, "stamp", 0, 0, 0).due(14, "wipe")
            .due(2, "count", 0).due(3, "count", 1).due(7, "count", 2).due(2, "count", 5).due(3, "count", 6)
            .due(1, "count", 7).due(1, "leave", 0, 1).due(3, "kind", 0).due(0, "count", 8);
    }

    private static void faultNone() {
        checks.sentence("Promise 4: FAULT. NONE");
        fresh().still(NONE, "fault");
        written("p0;").still(NONE, "fault").still(NONE, "fault");
        written("q").still(0, "fault").still(0, "fault").due(1, "wipe").still(NONE, "fault");
        // it is of THE TEXT, laid or not, and what is laid stays
        laid("p0;p0;").due(7, "write", 'p').still(6, "fault").due(2, "count", 0).due(7, "wipe").write("p1;")
            .still(NONE, "fault").due(0, "kind", 0);
    }

    /** A bureau at the end of its days with all that can be undone, stamped and kept. */
    private static Run fullBureau() {
        return fresh().toDay(999).times(6, "stamp", 0, 1, 2).times(2, "keep").due(8, "count", 6).due(6, "count", 5)
            .due(2, "count", 7);
    }

    private static void layFromFull() {
        checks.sentence("Promise 5: LAID: how many PERSONS; DAY 0, nothing FILED, STAMPED, UNDONE, KEPT");
        Run run = fullBureau();
        checks.holds("something was filed", run.call("filed", 1) > 0 && run.call("first") >= 0);
        run.write("p0;p3;h0,0,1,1,5;h1,0,1,1,5;").due(2, "lay");
        int[] counts = {2, 0, 3, 4, 5, 0, 0, 0, 28};
        for (int what = 0; what <= 8; what++) {
            run.due(counts[what], "count", what);
        }
        for (int what = 0; what <= 2; what++) {
            run.due(0, "filed", what);
        }
        run.due(NONE, "first").due(0, "often", 0, 1).refused(NO, "undo").refused(NO, "back").still(0, "forget");
        run.due(30, "pass", 30).due(30, "filed", 1).due(0, "first").due(8, "count", 6).due(1, "keep").due(2, "keep")
            .refused(FULL, "keep").times(5, "stamp", 0, 1, 2).due(6, "stamp", 0, 1, 2).refused(FULL, "stamp", 0, 1, 2)
            .due(1, "ways", 0).toDay(999).refused(NO, "pass", 1);
        // nothing of the DAYS ahead of it counts for those behind it
        laid(Towns.gathering("n9;", 0, 0)).due(1, "pass", 1).due(2, "lay").due(1, "pass", 1).due(0, "filed", 1)
            .due(0, "undo").due(0, "laws", 1, 9);
    }

    private static void layAfterOthers() {
        checks.sentence("Promise 5: LAID: nothing of what was laid ahead is left");
        Run run = laid("p3;p3;p3;p3;p3;l0,1;l0,3;l3,4;n9;c6;f20;z8;h0,0,1,2,9;h4,3,1,1,1;");
        for (int again = 0; again < 3; again++) {
            run.call("wipe");
            run.lay("p0;p0;p0;p0;p0;h0,0,1,2,1;");
            for (int i = 0; i < 5; i++) {
                run.due(0, "kind", i).due(NONE, "habit", i, 3, 0);
                for (int j = i + 1; j < 5; j++) {
                    run.due(0, "leave", i, j);
                }
            }
            // SEED 0 again: the DRAW of DAY 0 is 0
            run.due(3, "count", 2).due(4, "count", 3).due(5, "count", 4).due(1, "where", 0, 0, 0).due(1, "habit", 0, 0, 2);
        }
    }

    private static void layRefused() {
        checks.sentence("Promise 5: NO");
        fullBureau().refused(NO, "lay");
        fullBureau().write("n1;c2;f3;z4;").refused(NO, "lay");
        fullBureau().write("p1;p1;h0,0,1,1,1;l0,1;n1;c2;f3;z4;q").refused(NO, "lay");
        fullBureau().write("p4;").refused(NO, "lay").due(3, "wipe").write("p3;").due(1, "lay");
    }

    private static void layTwice() {
        checks.sentence("Promise 5: THE TEXT stays, and can be LAID again");
        laid("p0;p0;h0,0,1,2,5;").due(5, "alter", 0, 0, 9).due(1, "permit", 0, 1).due(17, "count", 8).due(2, "lay")
            .due(5, "habit", 0, 0, 2).due(0, "leave", 0, 1).due(0, "count", 6).due(18, "write", 'p').refused(NO, "lay")
            .due(19, "write", '0').due(20, "write", ';').due(3, "lay").due(20, "count", 8);
    }

    private static void habit() {
        checks.sentence("Promise 6: Of a PERSON's HABIT in an HOUR: A (what = 0), B (1), C (2). NONE: he has none; BAD");
        Run run = laid("p0;p0;h1,3,5,4,10;h1,0,0,1,0;");
        run.still(5, "habit", 1, 3, 0).still(4, "habit", 1, 3, 1).still(10, "habit", 1, 3, 2).still(0, "habit", 1, 0, 0)
            .still(1, "habit", 1, 0, 1).still(0, "habit", 1, 0, 2);
        for (int what = 0; what <= 2; what++) {
            run.refused(NONE, "habit", 0, 0, what).refused(NONE, "habit", 0, 3, what).refused(NONE, "habit", 1, 1, what)
                .refused(NONE, "habit", 1, 2, what);
        }
        run.refused(BAD, "habit", 1, 3, 3).refused(BAD, "habit", 1, 3, -1).refused(BAD, "habit", 2, 3, 0)
            .refused(BAD, "habit", -1, 3, 0).refused(BAD, "habit", 1, 4, 0).refused(BAD, "habit", 1, -1, 0);
        checks.sentence("Promise 6: BAD ahead of NONE");
        run.refused(BAD, "habit", 0, 0, 3).refused(BAD, "habit", 0, 0, -1).refused(BAD, "habit", 0, 4, 0);
    }

    private static void kind() {
        checks.sentence("Promise 7: KIND of a PERSON. BAD");
        laid("p3;").still(3, "kind", 0).refused(BAD, "kind", 1).refused(BAD, "kind", -1);
        laid("p3;p2;p1;p0;p3;").still(3, "kind", 0).still(0, "kind", 3).still(3, "kind", 4).refused(BAD, "kind", 5)
            .refused(BAD, "kind", -1);
        // those of a greater town laid ahead of this one are none
        laid("p1;p1;p1;p1;p1;").due(15, "wipe").lay("p2;").due(2, "kind", 0).refused(BAD, "kind", 1)
            .refused(BAD, "kind", 4);
    }

    private static void leave() {
        checks.sentence("Promise 8: 1 if two have a LEAVE, 0. BAD");
        Run run = laid("p0;p0;p0;p0;p0;l4,0;l2,3;");
        for (int i = 0; i < 5; i++) {
            for (int j = 0; j < 5; j++) {
                int want = i == j ? BAD : i + j == 4 && i * j == 0 || i + j == 5 && i * j == 6 ? 1 : 0;
                run.still(want, "leave", i, j);
            }
            run.refused(BAD, "leave", i, 5).refused(BAD, "leave", 5, i).refused(BAD, "leave", i, -1)
                .refused(BAD, "leave", -1, i);
        }
        run.refused(BAD, "leave", 5, 6).refused(BAD, "leave", 5, 5).refused(BAD, "leave", -1, -2);
        laid("p0;").refused(BAD, "leave", 0, 0).refused(BAD, "leave", 0, 1).refused(BAD, "leave", 1, 0);
    }
}
