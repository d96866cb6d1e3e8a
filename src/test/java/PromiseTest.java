/** Each promise with answers reckoned by hand from the document. */
public final class PromiseTest {
    private static final int BAD = -1, NO = -2, FULL = -3, NONE = -4;
    private static final int[] WRONG = {-1, 99, Integer.MIN_VALUE, Integer.MAX_VALUE};
    private static final Checks checks = new Checks();

    public static void main(String[] args) {
        newObject();
        write();
        wipe();
        faultOfItems();
        faultOfNumbers();
        faultOfPersons();
        lay();
        layAgain();
        habit();
        kind();
        leave();
        pass();
        meetingAndCrowds();
        unlawful();
        permit();
        alter();
        undo();
        undoAfterManyDays();
        undoEachOnItsOwn();
        where();
        draws();
        filedAndFirst();
        often();
        together();
        meets();
        mean();
        least();
        avoid();
        watch();
        stamp();
        waysAndSure();
        laws();
        ahead();
        keepAndBack();
        backToOtherDays();
        count();
        checks.end("PromiseTest");
    }

    private static void due(String what, long got, long want) {
        checks.due(what, got, want);
    }

    private static CoincidenceBureau written(String text) {
        CoincidenceBureau x = new CoincidenceBureau();
        for (int k = 0; k < text.length(); k++) {
            x.write(text.charAt(k));
        }
        return x;
    }

    private static CoincidenceBureau laid(String text) {
        CoincidenceBureau x = written(text);
        checks.holds("laid " + text, x.lay() > 0);
        return x;
    }

    private static String gathering(String rest, int... kinds) {
        return Towns.gathering(rest, kinds);
    }

    private static void newObject() {
        CoincidenceBureau x = new CoincidenceBureau();
        int[] counts = {4, 0, 3, 4, 5, 0, 0, 0, 0};
        for (int k = 0; k < counts.length; k++) {
            due("1 count " + k, x.count(k), counts[k]);
        }
        due("1 no fault", x.fault(), NONE);
        due("1 habit", x.habit(3, 2, 2), 2);
        due("1 filed", x.filed(0), 0);
        due("1 the town can be laid", laid(Towns.FIRST).pass(30), x.pass(30));
    }

    private static void write() {
        CoincidenceBureau x = new CoincidenceBureau();
        due("2 lowest", x.write(32), 1);
        due("2 highest", x.write(126), 2);
        due("2 below", x.write(31), BAD);
        due("2 above", x.write(127), BAD);
        due("2 far below", x.write(Integer.MIN_VALUE), BAD);
        due("2 length", x.count(8), 2);
        for (int k = 3; k <= 200; k++) {
            due("2 up to the limit", x.write('a'), k);
        }
        due("2 full", x.write('a'), FULL);
        due("2 bad ahead of full", x.write(0), BAD);
        due("2 length at the limit", x.count(8), 200);
    }

    private static void wipe() {
        CoincidenceBureau x = written("p9;");
        due("3 wipe", x.wipe(), 3);
        due("3 empty", x.wipe(), 0);
        due("3 no letters", x.count(8), 0);
        due("3 no fault", x.fault(), NONE);
        due("3 write anew", x.write('p'), 1);
        due("3 town stays", x.count(0), 4);
    }

    private static void fault(String text, int want) {
        due("4 fault of " + text, written(text).fault(), want);
    }

    private static void faultOfItems() {
        fault("", NONE);
        fault("p0;", NONE);
        fault("p0", 0);
        fault("p", 0);
        fault("p;", 0);
        fault(";", 0);
        fault("p0,0;", 0);
        fault("p0;;", 3);
        fault("p0; p0;", 3);
        fault("P0;", 0);
        fault("q0;", 0);
        fault("p0;p0;x", 6);
        fault("p0;h0,0,0,0;", 3);
        fault("p0;h0,0,0,0,0,0;", 3);
        fault("p0;h0;0,0,0,0;", 3);
        fault("p0;p0;l0;", 6);
        fault("p0;p0;l0,1,1;", 6);
        fault("n3;c4;f5;z2;", NONE);
        fault("n3;c4;f5;z2", 9);
    }

    private static void faultOfNumbers() {
        fault("p00;", NONE);
        fault("p000;", 0);
        fault("p03;", NONE);
        fault("p04;", 0);
        fault("p-1;", 0);
        fault("n9;", NONE);
        fault("n10;", 0);
        fault("c1;", 0);
        fault("c2;c6;", NONE);
        fault("c7;", 0);
        fault("f20;f0;", NONE);
        fault("f21;", 0);
        fault("z99;z00;", NONE);
        fault("z100;", 0);
        fault("z:;", 0);
        fault("z/;", 0);
        fault("z;;", 0);
        fault("z1:;", 0);
        fault("n 1;", 0);
        fault("p0;h0,3,5,5,10;", NONE);
        fault("p0;h00,03,05,05,10;", NONE);
        fault("p0;h0,4,0,0,0;", 3);
        fault("p0;h0,0,6,0,0;", 3);
        fault("p0;h0,0,0,6,0;", 3);
        fault("p0;h0,0,0,0,11;", 3);
    }

    private static void faultOfPersons() {
        fault("p0;p1;p2;p3;p0;", NONE);
        fault("p0;p1;p2;p3;p0;p0;", 15);
        fault("h0,0,0,0,0;p0;", 0);
        fault("p0;h1,0,0,0,0;p0;", 3);
        fault("p0;l0,1;p0;", 3);
        fault("p0;l1,0;p0;", 3);
        fault("p0;p0;l1,1;", 6);
        fault("p0;p0;l1,0;l0,1;", NONE);
    }

    private static void lay() {
        CoincidenceBureau x = written("p1;p2;p0;n1;n7;c2;c3;f1;f0;z5;h0,1,2,3,4;h0,1,5,4,3;l2,0;l0,2;");
        x.pass(3);
        x.stamp(0, 0, 0);
        x.keep();
        due("5 lay", x.lay(), 3);
        int[] counts = {3, 0, 7, 3, 0, 0, 0, 0, 62};
        for (int k = 0; k < counts.length; k++) {
            due("5 count " + k, x.count(k), counts[k]);
        }
        due("5 nothing undone", x.undo(), NO);
        due("5 nothing kept", x.back(), NO);
        due("5 nothing filed", x.filed(0) + x.filed(1), 0);
        due("5 nothing often", x.often(0, 1), 0);
        due("5 the last habit", x.habit(0, 1, 0), 5);
        due("5 a leave told twice", x.leave(0, 2), 1);
        due("5 fault stops it", written("p0;p7;").lay(), NO);
        due("5 no person", written("n3;").lay(), NO);
        due("5 empty", new CoincidenceBureau().lay(), NO);
        CoincidenceBureau y = written("p0;p7;");
        y.pass(2);
        y.lay();
        due("5 town stays", y.count(0), 4);
        due("5 day stays", y.count(1), 2);
        CoincidenceBureau z = laid("p0;");
        due("5 ban without", z.count(2), 3);
        due("5 crowd without", z.count(3), 4);
        due("5 fine without", z.count(4), 5);
    }

    private static void relay(CoincidenceBureau x, String text) {
        x.wipe();
        for (int k = 0; k < text.length(); k++) {
            x.write(text.charAt(k));
        }
        checks.holds("laid anew " + text, x.lay() > 0);
    }

    private static void layAgain() {
        CoincidenceBureau x = laid(gathering("n9;c5;f7;z9;l0,1;", 0, 0, 0));
        due("5 fault reads all anew", x.fault(), NONE);
        due("5 fault leaves the town", x.count(0) * 10 + x.leave(0, 1), 31);
        x.write('p');
        due("5 nor does a fault change it", x.fault(), 59);
        x.wipe();
        x.write('n');
        x.write('0');
        x.write(';');
        due("5 a text that is not laid", x.fault(), NONE);
        due("5 persons stay", x.count(0), 3);
        due("5 ban stays", x.count(2), 9);
        x.pass(4);
        relay(x, "p3;p0;p0;p0;");
        relay(x, "p0;p0;h0,0,1,2,5;h1,0,1,1,0;");
        due("5 persons of the last one alone", x.count(0), 2);
        due("5 its leaves alone", x.leave(0, 1), 0);
        due("5 its ban", x.count(2), 3);
        due("5 its crowd", x.count(3), 4);
        due("5 its fine", x.count(4), 5);
        due("5 no first", x.first(), NONE);
        due("5 nobody's old habit", x.habit(0, 1, 0), NONE);
        CoincidenceBureau y = laid("p0;p0;h0,0,1,2,5;h1,0,1,1,0;");
        for (int d = 0; d <= 30; d++) {
            due("5 its seed", x.where(0, 0, d), y.where(0, 0, d));
        }
    }

    private static void habit() {
        CoincidenceBureau x = laid("p0;p0;h1,2,4,3,10;h1,0,0,0,0;");
        due("6 A", x.habit(1, 2, 0), 4);
        due("6 B", x.habit(1, 2, 1), 3);
        due("6 C", x.habit(1, 2, 2), 10);
        due("6 zeros", x.habit(1, 0, 0), 0);
        due("6 none", x.habit(0, 2, 0), NONE);
        due("6 no person", x.habit(2, 2, 0), BAD);
        due("6 no what", x.habit(1, 2, 3), BAD);
        due("6 bad ahead of none", x.habit(0, 2, 3), BAD);
        for (int wrong : WRONG) {
            due("6 bad i", x.habit(wrong, 0, 0), BAD);
            due("6 bad h", x.habit(1, wrong, 0), BAD);
            due("6 bad what", x.habit(1, 0, wrong), BAD);
        }
    }

    private static void kind() {
        CoincidenceBureau x = laid("p3;p2;p1;p0;");
        for (int i = 0; i < 4; i++) {
            due("7 kind", x.kind(i), 3 - i);
        }
        due("7 no person", x.kind(4), BAD);
        for (int wrong : WRONG) {
            due("7 bad", x.kind(wrong), BAD);
        }
    }

    private static void leave() {
        CoincidenceBureau x = laid("p0;p0;p0;l2,1;");
        due("8 leave", x.leave(1, 2), 1);
        due("8 the other way", x.leave(2, 1), 1);
        due("8 none", x.leave(0, 1), 0);
        due("8 alike", x.leave(1, 1), BAD);
        due("8 no person", x.leave(0, 3), BAD);
        for (int wrong : WRONG) {
            due("8 bad i", x.leave(wrong, 0), BAD);
            due("8 bad j", x.leave(0, wrong), BAD);
        }
    }

    private static void pass() {
        CoincidenceBureau x = laid(gathering("", 0, 0, 0));
        due("9 three twos", x.pass(1), 3);
        due("9 most", x.pass(30), 90);
        due("9 none", x.pass(0), BAD);
        due("9 too many", x.pass(31), BAD);
        due("9 day", x.count(1), 31);
        for (int k = 0; k < 32; k++) {
            x.pass(30);
        }
        due("9 above", x.pass(9), NO);
        due("9 bad ahead of no", x.pass(-1), BAD);
        due("9 up to the last", x.pass(8), 24);
        due("9 last day", x.count(1), 999);
        due("9 no more", x.pass(1), NO);
        due("9 all", x.filed(0), 2997);
        due("9 the days behind the last one can be seen", x.where(0, 0, 30), 0);
        due("9 and laws for them", x.laws(30, 1), 90);
        due("12 the last day can be undone", x.undo(), 7);
        due("12 the one ahead of the last", x.count(1), 998);
        due("9 it goes by again", x.pass(1), 3);
    }

    private static void meetingAndCrowds() {
        due("9 a crowd does not meet", laid(gathering("c3;", 0, 0, 0)).pass(1), 0);
        due("9 fewer do", laid(gathering("c3;", 0, 0)).pass(1), 1);
        due("9 once a day", laid(gathering("h0,1,2,2,0;h1,1,2,2,0;", 0, 0)).pass(1), 1);
        due("9 at home nobody meets", laid("p0;p0;").pass(1), 0);
        due("9 the quiet hour counts", laid(gathering("h0,3,2,2,0;h1,3,2,2,0;c3;", 0, 0, 0)).pass(1), 1);
        due("9 a crowd elsewhere is nothing",
            laid("p0;p0;p0;p0;p0;h0,0,0,0,0;h1,0,0,0,0;h2,0,0,0,0;h3,0,1,1,0;h4,0,1,1,0;c3;").pass(1), 1);
    }

    private static void offences(String what, String town, int want) {
        CoincidenceBureau x = laid(town);
        x.pass(10);
        due("9 unlawful: " + what, x.filed(1), want);
    }

    private static void unlawful() {
        offences("again", gathering("n1;", 0, 0), 9);
        offences("never", gathering("n0;", 0, 0), 0);
        offences("leave", gathering("l0,1;", 0, 3), 0);
        offences("clerk", gathering("", 1, 3), 0);
        offences("stranger", gathering("n0;", 0, 3), 10);
        offences("stranger and twin", gathering("n0;", 2, 3), 10);
        offences("twins", gathering("n9;", 2, 2), 0);
        offences("one twin", gathering("n9;", 2, 0), 9);
        offences("clerk and twin", gathering("n9;", 2, 1), 0);
        CoincidenceBureau x = laid(gathering("n2;l0,1;", 0, 0));
        x.pass(2);
        x.permit(0, 1);
        due("9 met with a leave", x.pass(1), 1);
        due("9 counts for those behind", x.filed(1), 1);
        CoincidenceBureau y = laid("p0;p0;h0,0,0,0,0;h1,0,0,1,10;n2;");
        y.pass(1);
        y.alter(1, 0, 0);
        y.pass(2);
        y.alter(1, 0, 10);
        y.pass(1);
        due("9 three days behind are enough for two", y.filed(1), 0);
        y.alter(1, 0, 0);
        y.pass(1);
        y.alter(1, 0, 10);
        y.pass(1);
        due("9 two days behind are not", y.filed(1), 1);
    }

    private static void permit() {
        CoincidenceBureau x = new CoincidenceBureau();
        due("10 given", x.permit(1, 2), 1);
        due("10 there", x.leave(2, 1), 1);
        due("10 taken", x.permit(2, 1), 0);
        due("10 gone", x.leave(1, 2), 0);
        due("10 as told in the text", x.permit(0, 3), 0);
        due("10 others stay", x.leave(0, 1), 0);
        due("10 alike", x.permit(1, 1), BAD);
        due("10 no person", x.permit(0, 4), BAD);
        for (int wrong : WRONG) {
            due("10 bad i", x.permit(wrong, 0), BAD);
            due("10 bad j", x.permit(0, wrong), BAD);
        }
        due("10 bad is no change", x.count(6), 3);
    }

    private static void alter() {
        CoincidenceBureau x = new CoincidenceBureau();
        due("11 was", x.alter(1, 1, 0), 7);
        due("11 is", x.habit(1, 1, 2), 0);
        due("11 most", x.alter(1, 1, 10), 0);
        due("11 surely at A", x.where(1, 1, 1), 3);
        due("11 no habit", x.alter(0, 3, 5), NO);
        due("11 bad ahead of no", x.alter(0, 3, 11), BAD);
        due("11 no hour", x.alter(0, 4, 5), BAD);
        due("11 no person", x.alter(4, 0, 5), BAD);
        for (int wrong : WRONG) {
            due("11 bad i", x.alter(wrong, 0, 5), BAD);
            due("11 bad h", x.alter(0, wrong, 5), BAD);
            due("11 bad c", x.alter(0, 0, wrong), BAD);
        }
        due("11 bad is no change", x.count(6), 2);
    }

    private static void undo() {
        CoincidenceBureau x = laid(gathering("", 0, 0, 3));
        due("12 nothing", x.undo(), NO);
        x.pass(1);
        x.alter(0, 0, 5);
        x.permit(0, 1);
        due("12 leave", x.undo(), 2);
        due("12 no leave", x.leave(0, 1), 0);
        due("12 habit", x.undo(), 1);
        due("12 as before", x.habit(0, 0, 2), 0);
        due("12 first", x.first(), 0);
        due("12 day", x.undo(), 0);
        due("12 day 0", x.count(1), 0);
        due("12 filed", x.filed(0) + x.filed(1) + x.filed(2), 0);
        due("12 often", x.often(0, 1), 0);
        due("12 no first", x.first(), NONE);
        due("12 nothing more", x.undo(), NO);
        for (int k = 0; k < 9; k++) {
            x.permit(0, 1);
        }
        for (int left = 7; left >= 0; left--) {
            due("12 the last eight", x.undo(), left);
        }
        due("12 the ninth stays", x.leave(0, 1), 1);
        due("12 no ninth", x.undo(), NO);
    }

    private static void undoAfterManyDays() {
        CoincidenceBureau x = laid(gathering("n1;", 0, 0));
        x.pass(3);
        due("12 each day can be", x.count(6), 3);
        due("12 a day", x.undo(), 2);
        due("12 two are left", x.count(1), 2);
        due("12 filed on them", x.filed(0), 2);
        due("12 unlawful on them", x.filed(1), 1);
        due("12 another", x.undo(), 1);
        due("12 the first one is undone", x.first(), NONE);
        x.pass(30);
        due("12 eight days", x.count(6), 8);
        due("12 and no more", x.undo(), 7);
        due("12 the day", x.count(1), 30);
    }

    private static void undoEachOnItsOwn() {
        CoincidenceBureau x = new CoincidenceBureau();
        x.permit(2, 3);
        x.alter(0, 0, 1);
        x.alter(3, 2, 8);
        x.permit(1, 3);
        x.permit(0, 3);
        x.pass(1);
        x.alter(0, 0, 9);
        x.alter(2, 2, 4);
        x.permit(0, 2);
        x.undo();
        due("12 leave of 0, 2", x.leave(0, 2), 0);
        x.undo();
        due("12 habit of 2", x.habit(2, 2, 2), 1);
        x.undo();
        due("12 habit of 0, once", x.habit(0, 0, 2), 1);
        x.undo();
        due("12 day", x.count(1), 0);
        x.undo();
        due("12 leave of 0, 3 is back", x.leave(0, 3), 1);
        due("12 leave of 1, 3 is still there", x.leave(1, 3), 1);
        x.undo();
        due("12 leave of 1, 3", x.leave(1, 3), 0);
        x.undo();
        due("12 habit of 3", x.habit(3, 2, 2), 2);
        due("12 habit of 0, twice", x.undo(), 0);
        due("12 as at first", x.habit(0, 0, 2), 5);
        due("12 the oldest stays", x.leave(2, 3), 1);
    }

    private static void where() {
        CoincidenceBureau x = laid("p0;p0;h0,0,1,2,0;h0,1,1,2,10;h1,2,4,4,5;h1,0,1,2,1;z1;");
        due("13 surely at B", x.where(0, 0, 0), 2);
        due("13 surely at A", x.where(0, 1, 30), 1);
        due("13 alike", x.where(1, 2, 7), 4);
        due("13 home", x.where(0, 3, 0), NONE);
        // x = 7919 + 3571 + 1 = 11491; its square leaves 18266 by 65521, and 18266 / 8 is 2283, cut
        due("13 draw of 3 is not below 1", x.where(1, 0, 0), 2);
        x.alter(1, 0, 3);
        due("13 draw of 3 is not below 3", x.where(1, 0, 0), 2);
        x.alter(1, 0, 4);
        due("13 draw of 3 is below 4", x.where(1, 0, 0), 1);
        int ahead = x.where(1, 0, 5);
        x.pass(5);
        due("13 the same day from nearer", x.where(1, 0, 0), ahead);
        due("13 too far", x.where(0, 0, 31), BAD);
        due("13 bad ahead of none", x.where(0, 3, 31), BAD);
        for (int wrong : WRONG) {
            due("13 bad i", x.where(wrong, 0, 0), BAD);
            due("13 bad h", x.where(0, wrong, 0), BAD);
            due("13 bad d", x.where(0, 0, wrong), BAD);
        }
    }

    /** The draw as the document tells it, from where C lets a person change places. */
    private static void draws() {
        CoincidenceBureau x = laid("p0;p0;p0;p0;p0;h4,3,0,1,5;h2,1,0,1,5;h0,0,0,1,5;z99;");
        int[][] whoWhen = {{4, 3}, {2, 1}, {0, 0}};
        x.pass(20);
        for (int[] w : whoWhen) {
            for (int d = 0; d <= 30; d += 6) {
                long n = 7919L * 99 + 6151L * (20 + d) + 3571L * w[0] + 1013L * w[1] + 1;
                long draw = n * n % 65521 / 8 % 10;
                for (int c = 0; c <= 10; c++) {
                    x.alter(w[0], w[1], c);
                    due("13 draw", x.where(w[0], w[1], d), draw < c ? 0 : 1);
                }
            }
        }
    }

    private static void filedAndFirst() {
        CoincidenceBureau x = laid(gathering("f20;n4;", 0, 0, 1));
        due("15 none yet", x.first(), NONE);
        x.pass(1);
        due("14 filed", x.filed(0), 3);
        due("14 lawful", x.filed(1), 0);
        due("15 none", x.first(), NONE);
        x.pass(4);
        due("14 filed more", x.filed(0), 15);
        due("14 unlawful", x.filed(1), 4);
        due("14 fined", x.filed(2), 80);
        due("15 first", x.first(), 1);
        x.permit(0, 1);
        due("14 a later leave changes nothing", x.filed(1), 4);
        for (int wrong : WRONG) {
            due("14 bad", x.filed(wrong), BAD);
        }
        due("14 bad 3", x.filed(3), BAD);
    }

    private static void often() {
        CoincidenceBureau x = laid(gathering("", 0, 0, 1) + "p0;");
        x.pass(7);
        due("16 often", x.often(0, 2), 7);
        due("16 the other way", x.often(2, 0), 7);
        due("16 never", x.often(0, 3), 0);
        CoincidenceBureau y = laid("p0;p0;p0;p0;p0;h4,0,0,0,0;h3,0,0,0,0;h4,1,1,1,1;h0,1,1,1,1;");
        y.pass(2);
        due("16 the last two", y.often(3, 4), 2);
        due("16 first and last", y.often(4, 0), 2);
        due("16 not these", y.often(0, 3), 0);
        due("16 alike", x.often(0, 0), BAD);
        for (int wrong : WRONG) {
            due("16 bad i", x.often(wrong, 0), BAD);
            due("16 bad j", x.often(0, wrong), BAD);
        }
    }

    private static void together() {
        // at 1 by 3/10 each and at 2 by 7/10 and 4/10 of 6/10
        CoincidenceBureau x = laid("p0;p0;p0;h0,0,1,2,3;h1,0,2,1,4;h2,0,5,5,2;");
        due("17 above", x.together(0, 1, 0, 0), 23);
        due("17 below", x.together(0, 1, 0, 1), 50);
        due("17 the other way", x.together(1, 0, 0, 0), 23);
        due("17 never", x.together(0, 2, 0, 0), 0);
        due("17 never, below", x.together(0, 2, 0, 1), 1);
        due("17 at home", x.together(0, 1, 3, 0), 0);
        due("17 crowds not minded", laid(gathering("c2;", 0, 0)).together(0, 1, 0, 0), 1);
        due("17 alike", x.together(1, 1, 0, 0), BAD);
        due("17 no part", x.together(0, 1, 0, 2), BAD);
        for (int wrong : WRONG) {
            due("17 bad i", x.together(wrong, 1, 0, 0), BAD);
            due("17 bad j", x.together(0, wrong, 0, 0), BAD);
            due("17 bad h", x.together(0, 1, wrong, 0), BAD);
            due("17 bad part", x.together(0, 1, 0, wrong), BAD);
        }
    }

    private static void meets() {
        // half in each of two hours: 3 of 4
        CoincidenceBureau x = laid("p0;p0;p0;h0,0,1,2,5;h1,0,1,1,0;h0,3,1,2,5;h1,3,1,1,0;");
        due("18 above", x.meets(0, 1, 0), 3);
        due("18 below", x.meets(1, 0, 1), 4);
        due("18 never", x.meets(0, 2, 0), 0);
        due("18 never, below", x.meets(0, 2, 1), 1);
        x.alter(0, 0, 1);
        x.alter(0, 3, 1);
        due("18 altered", x.meets(0, 1, 0), 19);
        due("18 altered, below", x.meets(0, 1, 1), 100);
        CoincidenceBureau y = laid("p0;p0;h0,0,0,1,1;h1,0,0,2,1;h0,1,0,1,1;h1,1,0,2,1;h0,2,0,1,1;h1,2,0,2,1;h0,3,0,1,1;h1,3,0,2,1;");
        due("18 many figures", y.meets(0, 1, 0), 3940399);
        due("18 many figures, below", y.meets(0, 1, 1), 100000000);
        due("18 alike", x.meets(1, 1, 0), BAD);
        due("18 no part", x.meets(0, 1, 2), BAD);
        for (int wrong : WRONG) {
            due("18 bad i", x.meets(wrong, 1, 0), BAD);
            due("18 bad j", x.meets(0, wrong, 0), BAD);
            due("18 bad part", x.meets(0, 1, wrong), BAD);
        }
    }

    private static void mean() {
        due("19 ten twos in an hour", laid(gathering("", 0, 0, 0, 0, 0)).mean(0), 10);
        CoincidenceBureau x = laid("p0;p0;p0;h0,0,1,2,5;h1,0,1,1,0;h2,0,2,2,0;h0,3,1,2,2;h1,3,1,4,3;");
        // 1/2 + 1/2 in hour 0, 6/100 in hour 3
        due("19 above", x.mean(0), 53);
        due("19 below", x.mean(1), 50);
        due("19 none", laid("p0;").mean(0), 0);
        due("19 none, below", laid("p0;").mean(1), 1);
        due("19 no part", x.mean(2), BAD);
        for (int wrong : WRONG) {
            due("19 bad", x.mean(wrong), BAD);
        }
    }

    private static void least() {
        CoincidenceBureau x = laid("p0;p0;h0,1,1,2,5;h1,1,1,2,5;");
        due("20 already", x.least(0, 1, 5, 0), NONE);
        due("20 by nothing", x.least(0, 1, 5, 1), 0);
        // a half stays a half whatever one of them does
        due("20 none", x.least(0, 1, 6, 0), NONE);
        due("20 none by", x.least(0, 1, 6, 1), NONE);
        CoincidenceBureau y = laid("p0;p0;p0;h1,1,1,2,4;h2,1,1,2,4;h1,2,0,1,2;h2,2,1,1,3;");
        // hour 1: 52/100; hour 2: 8/10
        due("20 nine of ten already", y.least(1, 2, 9, 0), NONE);
        due("20 the first of both", laid("p0;p0;h0,0,1,2,5;h1,0,1,1,5;").least(1, 0, 6, 0), 6);
        due("20 lower C", laid("p0;p0;h0,0,1,2,5;h1,0,2,2,5;").least(0, 1, 7, 0), 3);
        due("20 lower C by", laid("p0;p0;h0,0,1,2,5;h1,0,2,2,5;").least(0, 1, 7, 1), 2);
        due("20 person ahead of hour", laid("p0;p0;h0,3,1,2,5;h1,3,1,1,5;h1,0,1,2,5;h0,0,1,1,5;").least(1, 0, 8, 0), 306);
        due("20 least ahead of person", y.least(1, 2, 10, 0), 1200);
        due("20 least ahead of person by", y.least(2, 1, 10, 1), 2);
        due("20 up to ten", laid("p0;p0;h0,2,1,2,5;h1,2,1,1,5;").least(0, 1, 10, 0), 210);
        due("20 by five", laid("p0;p0;h0,2,1,2,5;h1,2,1,1,5;").least(0, 1, 10, 1), 5);
        due("20 habit stays", y.habit(1, 2, 2), 2);
        due("20 no change is noted", y.count(6), 0);
        due("20 alike", x.least(1, 1, 5, 0), BAD);
        due("20 y 0", x.least(0, 1, 0, 0), BAD);
        due("20 y 11", x.least(0, 1, 11, 0), BAD);
        due("20 what 2", x.least(0, 1, 5, 2), BAD);
        for (int wrong : WRONG) {
            due("20 bad i", x.least(wrong, 1, 5, 0), BAD);
            due("20 bad j", x.least(0, wrong, 5, 0), BAD);
            due("20 bad y", x.least(0, 1, wrong, 0), BAD);
            due("20 bad what", x.least(0, 1, 5, wrong), BAD);
        }
    }

    private static void avoid() {
        CoincidenceBureau x = laid("p0;p0;p0;h0,0,1,2,5;h1,0,1,3,6;h2,0,2,3,5;h0,1,1,2,5;h1,1,1,2,5;h0,3,1,2,0;h1,3,1,1,0;");
        // hour 0: 6/10 at A, 5/10 at B; hour 1: a tie; hour 3: 1 at A
        due("21 bits", x.avoid(0), 9);
        due("21 no habits", laid("p0;").avoid(0), 0);
        due("21 alike", laid(gathering("", 0, 0)).avoid(0), 0);
        due("21 no person", x.avoid(3), BAD);
        for (int wrong : WRONG) {
            due("21 bad", x.avoid(wrong), BAD);
        }
    }

    private static void watch() {
        CoincidenceBureau x = laid("p0;p0;p0;h0,0,1,2,5;h1,0,2,1,5;h0,2,5,5,0;h1,2,5,0,3;");
        due("22 where and when", x.watch(0), 17);
        due("22 as much", x.watch(1), 30);
        x.alter(1, 2, 2);
        due("22 of several the first", x.watch(0), 1);
        due("22 not in lowest terms", x.watch(1), 25);
        due("22 nobody", laid("p0;").watch(0), 0);
        due("22 nothing", laid("p0;").watch(1), 0);
        due("22 no what", x.watch(2), BAD);
        for (int wrong : WRONG) {
            due("22 bad", x.watch(wrong), BAD);
        }
    }

    private static void stamp() {
        CoincidenceBureau x = new CoincidenceBureau();
        for (int k = 0; k < 6; k++) {
            due("23 stamped", x.stamp(3, 5, 5), k + 1);
        }
        due("23 full", x.stamp(0, 0, 0), FULL);
        due("23 bad ahead of full", x.stamp(4, 0, 0), BAD);
        due("23 count", x.count(5), 6);
        due("24 forget", x.forget(), 6);
        due("24 nothing", x.forget(), 0);
        due("24 count", x.count(5), 0);
        due("23 no place", x.stamp(0, 6, 0), BAD);
        due("23 too many", x.stamp(0, 0, 6), BAD);
        for (int wrong : WRONG) {
            due("23 bad h", x.stamp(wrong, 0, 0), BAD);
            due("23 bad place", x.stamp(0, wrong, 0), BAD);
            due("23 bad k", x.stamp(0, 0, wrong), BAD);
        }
        due("23 bad is not stamped", x.count(5), 0);
    }

    private static void waysAndSure() {
        CoincidenceBureau x = laid("p0;p0;p0;p0;h0,0,1,2,10;h1,0,2,1,0;h2,0,1,1,3;");
        due("25 two of two, whatever C", x.ways(0), 4);
        due("25 at home", x.ways(1), 1);
        due("26 one surely", x.sure(0, 1), 4);
        due("26 nobody surely", x.sure(0, 2), 0);
        x.stamp(1, 1, 0);
        due("25 another hour", x.ways(0), 4);
        x.stamp(0, 1, 3);
        due("25 one way", x.ways(0), 1);
        due("26 three surely", x.sure(0, 1), 7);
        x.stamp(0, 2, 1);
        due("25 no way", x.ways(0), 0);
        due("26 no way", x.sure(0, 1), 0);
        x.forget();
        due("25 forgotten", x.ways(0), 4);
        x.stamp(1, 0, 1);
        due("25 nobody can be there", x.ways(1), 0);
        due("25 no hour", x.ways(4), BAD);
        due("26 no hour", x.sure(4, 0), BAD);
        due("26 no place", x.sure(0, 6), BAD);
        for (int wrong : WRONG) {
            due("25 bad", x.ways(wrong), BAD);
            due("26 bad h", x.sure(wrong, 0), BAD);
            due("26 bad place", x.sure(0, wrong), BAD);
        }
    }

    private static void laws() {
        CoincidenceBureau x = laid(gathering("n0;", 0, 0));
        due("27 first day", x.laws(1, 9), 0);
        due("27 none in one day", x.laws(1, -1), NONE);
        due("27 days", x.laws(30, 1), 29);
        due("27 never", x.laws(30, 0), 0);
        due("27 least", x.laws(2, -1), 1);
        x.pass(1);
        due("27 the day ahead counts", x.laws(1, 1), 1);
        CoincidenceBureau y = laid("p0;p0;h0,0,0,1,10;h1,0,0,0,10;n0;");
        y.pass(1);
        y.alter(0, 0, 0);
        y.pass(4);
        y.alter(0, 0, 10);
        due("27 as they were", y.laws(1, 4), 0);
        due("27 five days ahead", y.laws(1, 5), 1);
        due("27 least by those ahead", y.laws(1, -1), 5);
        due("27 least within", y.laws(2, -1), 1);
        CoincidenceBureau z = laid("p0;p0;h0,0,0,1,10;h1,0,0,0,10;n0;");
        z.pass(1);
        z.alter(0, 0, 0);
        z.pass(8);
        z.alter(0, 0, 10);
        due("27 nine days ahead", z.laws(1, 9), 1);
        due("27 nine are the least", z.laws(1, -1), 9);
        due("27 eight are too few", z.laws(1, 8), 0);
        foreseen();
        due("27 strangers need no ban", laid(gathering("", 0, 3)).laws(3, -1), 0);
        due("27 strangers", laid(gathering("", 0, 3)).laws(3, 0), 3);
        due("27 nothing changes", x.count(1) + x.count(2), 1);
        due("27 n 0", x.laws(0, 0), BAD);
        due("27 n 31", x.laws(31, 0), BAD);
        due("27 d 10", x.laws(1, 10), BAD);
        due("27 d -2", x.laws(1, -2), BAD);
        for (int wrong : WRONG) {
            due("27 bad n", x.laws(wrong, 0), BAD);
        }
        due("27 bad d", x.laws(1, Integer.MAX_VALUE), BAD);
    }

    /** What laws foretells by the ban in force is what comes. */
    private static void foreseen() {
        CoincidenceBureau x = new CoincidenceBureau();
        for (int n = 1; n <= 12; n++) {
            int foretold = x.laws(n, 3);
            int before = x.filed(1);
            x.pass(n);
            due("27 foretold", foretold, x.filed(1) - before);
        }
    }

    private static void ahead() {
        CoincidenceBureau x = new CoincidenceBureau();
        due("28 far", x.ahead(1, 2, 30), 15);
        due("28 just within", x.ahead(2, 1, 16), 15);
        due("28 just not", x.ahead(1, 2, 15), NONE);
        x.pass(10);
        due("28 nearer", x.ahead(1, 2, 30), 5);
        due("28 crowds", laid(gathering("c2;", 0, 0)).ahead(0, 1, 30), NONE);
        due("28 next", laid(gathering("", 0, 0)).ahead(0, 1, 1), 0);
        due("28 alike", x.ahead(1, 1, 5), BAD);
        due("28 n 0", x.ahead(0, 1, 0), BAD);
        due("28 n 31", x.ahead(0, 1, 31), BAD);
        for (int wrong : WRONG) {
            due("28 bad i", x.ahead(wrong, 1, 5), BAD);
            due("28 bad j", x.ahead(0, wrong, 5), BAD);
            due("28 bad n", x.ahead(0, 1, wrong), BAD);
        }
    }

    private static void keepAndBack() {
        CoincidenceBureau x = laid(gathering("n1;", 0, 0));
        due("30 nothing kept", x.back(), NO);
        x.pass(2);
        x.permit(0, 1);
        due("29 kept", x.keep(), 1);
        due("29 can still be undone", x.count(6), 3);
        x.pass(3);
        x.permit(0, 1);
        x.alter(0, 0, 7);
        x.stamp(0, 0, 1);
        due("29 kept twice", x.keep(), 2);
        due("29 full", x.keep(), FULL);
        due("30 the last", x.back(), 1);
        due("30 its day", x.count(1), 5);
        due("30 its habit", x.habit(0, 0, 2), 7);
        due("30 nothing undone", x.undo(), NO);
        due("30 the one ahead", x.back(), 0);
        due("30 day", x.count(1), 2);
        due("30 filed", x.filed(0), 2);
        due("30 unlawful", x.filed(1), 1);
        due("30 first", x.first(), 1);
        due("30 often", x.often(0, 1), 2);
        due("30 leave", x.leave(0, 1), 1);
        due("30 habit", x.habit(0, 0, 2), 0);
        due("30 stamps stay", x.count(5), 1);
        due("30 no more", x.back(), NO);
        x.permit(0, 1);
        x.pass(1);
        due("30 the days ahead count", x.filed(1), 2);
    }

    private static void backToOtherDays() {
        CoincidenceBureau x = laid("p0;p0;h0,0,0,1,0;h1,0,1,1,0;n2;");
        x.pass(3);
        due("29 met thrice", x.filed(1), 2);
        x.keep();
        x.undo();
        x.undo();
        x.undo();
        x.alter(0, 0, 10);
        x.pass(20);
        due("29 other days", x.filed(0), 0);
        due("30 back", x.back(), 0);
        due("30 day of those", x.count(1), 3);
        due("30 filed then", x.filed(0), 3);
        due("30 unlawful then", x.filed(1), 2);
        due("30 first then", x.first(), 1);
        due("30 the days as they were then", x.laws(1, 1), 1);
        x.alter(0, 0, 10);
        x.pass(2);
        x.undo();
        x.undo();
        x.undo();
        due("30 undone again", x.filed(1), 2);
    }

    private static void count() {
        CoincidenceBureau x = laid("p0;p0;n2;c5;f9;");
        x.pass(6);
        x.stamp(0, 0, 0);
        x.keep();
        int[] counts = {2, 6, 2, 5, 9, 1, 6, 1, 15};
        for (int k = 0; k < counts.length; k++) {
            due("31 count " + k, x.count(k), counts[k]);
        }
        due("31 bad", x.count(9), BAD);
        for (int wrong : WRONG) {
            due("31 bad", x.count(wrong), BAD);
        }
    }
}
