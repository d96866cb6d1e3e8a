import java.math.BigInteger;
import java.util.ArrayDeque;
import java.util.ArrayList;
import java.util.Deque;
import java.util.HashMap;
import java.util.List;
import java.util.Map;
import java.util.TreeSet;
import java.util.regex.Matcher;
import java.util.regex.Pattern;

/**
 * The document once more, as slowly and plainly as can be: whole states are copied, chances are sums over all that
 * can be, and files are read from their start. Nothing of the class is used, so that a slip in one shows in the other.
 */
final class Model {
    private static final int BAD = -1, NO = -2, FULL = -3, NONE = -4;
    private static final Pattern ITEM = Pattern.compile("([hlpncfz])(\\d\\d?(?:,\\d\\d?)*);");

    /** All that can be kept; entries of the files are texts "day:i,j". */
    private static final class State {
        int day;
        List<String> files = new ArrayList<>();
        List<Integer> offenceDays = new ArrayList<>();
        TreeSet<String> leaves = new TreeSet<>();
        Map<String, int[]> habits = new HashMap<>();

        State copy() {
            State s = new State();
            s.day = day;
            s.files.addAll(files);
            s.offenceDays.addAll(offenceDays);
            s.leaves.addAll(leaves);
            habits.forEach((k, v) -> s.habits.put(k, v.clone()));
            return s;
        }
    }

    private final StringBuilder text = new StringBuilder();
    private List<Integer> kinds = new ArrayList<>();
    private int ban, crowd, fine, seed;
    private State now = new State();
    private Deque<State> past = new ArrayDeque<>();
    private Deque<State> kept = new ArrayDeque<>();
    private List<int[]> stamps = new ArrayList<>();

    Model() {
        text.append("p0;p0;p2;p3;h0,0,1,2,5;h0,1,3,3,0;h1,0,1,4,4;h1,1,3,0,7;h2,0,2,1,5;h2,2,5,5,1;"
            + "h3,0,1,1,9;h3,2,5,0,2;l0,3;n3;c4;f5;z2;");
        lay();
        text.setLength(0);
    }

    // ---- towns

    int write(int letter) {
        if (letter < 32 || letter > 126) return BAD;
        if (text.length() == 200) return FULL;
        text.append((char) letter);
        return text.length();
    }

    int wipe() {
        int n = text.length();
        text.setLength(0);
        return n;
    }

    int fault() {
        List<int[]> items = new ArrayList<>();
        return parse(items);
    }

    /** Items as numbers, the letter first. */
    private int parse(List<int[]> items) {
        Matcher m = ITEM.matcher(text);
        int at = 0;
        int persons = 0;
        while (at < text.length()) {
            if (!m.find(at) || m.start() != at) return at;
            String[] parts = m.group(2).split(",");
            int[] item = new int[parts.length + 1];
            item[0] = m.group(1).charAt(0);
            for (int k = 0; k < parts.length; k++) item[k + 1] = Integer.parseInt(parts[k]);
            if (!isRight(item, persons)) return at;
            if (item[0] == 'p') persons++;
            items.add(item);
            at = m.end();
        }
        return NONE;
    }

    private static boolean isRight(int[] t, int persons) {
        switch (t[0]) {
            case 'p': return t.length == 2 && t[1] <= 3 && persons < 5;
            case 'h': return t.length == 6 && t[1] < persons && t[2] < 4 && t[3] < 6 && t[4] < 6 && t[5] <= 10;
            case 'l': return t.length == 3 && t[1] < persons && t[2] < persons && t[1] != t[2];
            case 'n': return t.length == 2 && t[1] <= 9;
            case 'c': return t.length == 2 && t[1] >= 2 && t[1] <= 6;
            case 'f': return t.length == 2 && t[1] <= 20;
            default: return t.length == 2;
        }
    }

    int lay() {
        List<int[]> items = new ArrayList<>();
        if (parse(items) != NONE || items.stream().noneMatch(t -> t[0] == 'p')) return NO;
        now = new State();
        kinds = new ArrayList<>();
        past.clear();
        kept.clear();
        stamps.clear();
        ban = 3;
        crowd = 4;
        fine = 5;
        seed = 0;
        for (int[] t : items) {
            if (t[0] == 'p') kinds.add(t[1]);
            if (t[0] == 'h') now.habits.put(t[1] + "@" + t[2], new int[] {t[3], t[4], t[5]});
            if (t[0] == 'l') now.leaves.add(two(t[1], t[2]));
            if (t[0] == 'n') ban = t[1];
            if (t[0] == 'c') crowd = t[1];
            if (t[0] == 'f') fine = t[1];
            if (t[0] == 'z') seed = t[1];
        }
        return kinds.size();
    }

    private static String two(int i, int j) {
        return i < j ? i + "," + j : j + "," + i;
    }

    private boolean noPerson(int i) {
        return i < 0 || i >= kinds.size();
    }

    private boolean noTwo(int i, int j) {
        return noPerson(i) || noPerson(j) || i == j;
    }

    private static boolean out(int n, int low, int high) {
        return n < low || n > high;
    }

    private int[] habitOf(int i, int h) {
        return now.habits.get(i + "@" + h);
    }

    int habit(int i, int h, int what) {
        if (noPerson(i) || out(h, 0, 3) || out(what, 0, 2)) return BAD;
        return habitOf(i, h) == null ? NONE : habitOf(i, h)[what];
    }

    int kind(int i) {
        return noPerson(i) ? BAD : kinds.get(i);
    }

    int leave(int i, int j) {
        if (noTwo(i, j)) return BAD;
        return now.leaves.contains(two(i, j)) ? 1 : 0;
    }

    // ---- days

    private void remember() {
        past.addLast(now.copy());
        if (past.size() > 8) past.removeFirst();
    }

    private int spot(int i, int h, int day) {
        int[] t = habitOf(i, h);
        if (t == null) return NONE;
        BigInteger x = BigInteger.valueOf(7919L * seed + 6151L * day + 3571L * i + 1013L * h + 1);
        int draw = x.multiply(x).mod(BigInteger.valueOf(65521)).intValue() / 8 % 10;
        return draw < t[2] ? t[0] : t[1];
    }

    private boolean meet(int i, int j, int day) {
        for (int h = 0; h < 4; h++) {
            int place = spot(i, h, day);
            int heads = 0;
            for (int k = 0; k < kinds.size(); k++) if (spot(k, h, day) == place) heads++;
            if (place != NONE && spot(j, h, day) == place && heads < crowd) return true;
        }
        return false;
    }

    private boolean isUnlawful(int i, int j, int day, int n, List<String> files) {
        if (now.leaves.contains(two(i, j))) return false;
        if (kinds.get(i) == 1 || kinds.get(j) == 1) return false;
        if (kinds.get(i) == 3 || kinds.get(j) == 3) return true;
        if (kinds.get(i) == 2 && kinds.get(j) == 2) return false;
        for (int back = 1; back <= n; back++) if (files.contains((day - back) + ":" + two(i, j))) return true;
        return false;
    }

    /** Adds a day to the files; how many of it are unlawful. */
    private int addDay(int day, int n, List<String> files) {
        int offences = 0;
        for (int i = 0; i < kinds.size(); i++) {
            for (int j = i + 1; j < kinds.size(); j++) {
                if (!meet(i, j, day)) continue;
                if (isUnlawful(i, j, day, n, files)) offences++;
                files.add(day + ":" + two(i, j));
            }
        }
        return offences;
    }

    int pass(int n) {
        if (out(n, 1, 30)) return BAD;
        if (now.day + n > 999) return NO;
        int before = now.files.size();
        for (int k = 0; k < n; k++) {
            remember();
            int offences = addDay(now.day, ban, now.files);
            for (int o = 0; o < offences; o++) now.offenceDays.add(now.day);
            now.day++;
        }
        return now.files.size() - before;
    }

    int permit(int i, int j) {
        if (noTwo(i, j)) return BAD;
        remember();
        if (!now.leaves.remove(two(i, j))) now.leaves.add(two(i, j));
        return leave(i, j);
    }

    int alter(int i, int h, int c) {
        if (noPerson(i) || out(h, 0, 3) || out(c, 0, 10)) return BAD;
        if (habitOf(i, h) == null) return NO;
        remember();
        int was = habitOf(i, h)[2];
        habitOf(i, h)[2] = c;
        return was;
    }

    int undo() {
        if (past.isEmpty()) return NO;
        now = past.removeLast();
        return past.size();
    }

    int where(int i, int h, int d) {
        if (noPerson(i) || out(h, 0, 3) || out(d, 0, 30)) return BAD;
        return spot(i, h, now.day + d);
    }

    int filed(int what) {
        if (out(what, 0, 2)) return BAD;
        return what == 0 ? now.files.size() : now.offenceDays.size() * (what == 1 ? 1 : fine);
    }

    int first() {
        return now.offenceDays.isEmpty() ? NONE : now.offenceDays.get(0);
    }

    int often(int i, int j) {
        if (noTwo(i, j)) return BAD;
        return (int) now.files.stream().filter(f -> f.endsWith(":" + two(i, j))).count();
    }

    // ---- how likely

    /** Of a hundred draws of two, in how many both are at one place, or at this place if it is none of them below 0. */
    private int hundredths(int i, int j, int h, int place) {
        if (habitOf(i, h) == null || habitOf(j, h) == null) return 0;
        int sum = 0;
        for (int drawI = 0; drawI < 10; drawI++) {
            for (int drawJ = 0; drawJ < 10; drawJ++) {
                int a = drawI < habitOf(i, h)[2] ? habitOf(i, h)[0] : habitOf(i, h)[1];
                int b = drawJ < habitOf(j, h)[2] ? habitOf(j, h)[0] : habitOf(j, h)[1];
                if (a == b && (place < 0 || place == a)) sum++;
            }
        }
        return sum;
    }

    private static int lowest(long above, long below, int part) {
        BigInteger g = BigInteger.valueOf(above).gcd(BigInteger.valueOf(below));
        return BigInteger.valueOf(part == 0 ? above : below).divide(g).intValue();
    }

    int together(int i, int j, int h, int part) {
        if (noTwo(i, j) || out(h, 0, 3) || out(part, 0, 1)) return BAD;
        return lowest(hundredths(i, j, h, -1), 100, part);
    }

    /** Above 100000000, as the sum of: not in the hours ahead, but in this one. */
    private long chance(int i, int j) {
        long sum = 0;
        long open = 1;
        for (int h = 0; h < 4; h++) {
            long t = hundredths(i, j, h, -1);
            sum = sum * 100 + open * t;
            open *= 100 - t;
        }
        return sum;
    }

    int meets(int i, int j, int part) {
        if (noTwo(i, j) || out(part, 0, 1)) return BAD;
        return lowest(chance(i, j), 100000000L, part);
    }

    int mean(int part) {
        if (out(part, 0, 1)) return BAD;
        int sum = 0;
        for (int h = 0; h < 4; h++) for (int place = 0; place < 6; place++) sum += twosAt(h, place);
        return lowest(sum, 100, part);
    }

    private int twosAt(int h, int place) {
        int sum = 0;
        for (int i = 0; i < kinds.size(); i++) {
            for (int j = i + 1; j < kinds.size(); j++) sum += hundredths(i, j, h, place);
        }
        return sum;
    }

    int least(int i, int j, int y, int what) {
        if (noTwo(i, j) || out(y, 1, 10) || out(what, 0, 1)) return BAD;
        for (int change = 0; change <= 10; change++) {
            for (int who : new TreeSet<>(List.of(i, j))) {
                for (int h = 0; h < 4; h++) {
                    int[] t = habitOf(who, h);
                    for (int c = 0; c <= 10 && t != null; c++) {
                        int was = t[2];
                        if (Math.abs(c - was) != change) continue;
                        t[2] = c;
                        boolean enough = chance(i, j) * 10 >= y * 100000000L;
                        t[2] = was;
                        if (enough) return what == 1 ? change : change == 0 ? NONE : who * 1000 + h * 100 + c;
                    }
                }
            }
        }
        return NONE;
    }

    int avoid(int i) {
        if (noPerson(i)) return BAD;
        int best = 0;
        int fewest = Integer.MAX_VALUE;
        for (int way = 0; way < 16; way++) {
            int others = 0;
            for (int h = 0; h < 4; h++) {
                int[] t = habitOf(i, h);
                if (t != null) others += othersAt(i, h, (way >> h & 1) == 1 ? t[1] : t[0]);
            }
            if (others < fewest) {
                fewest = others;
                best = way;
            }
        }
        return best;
    }

    private int othersAt(int i, int h, int place) {
        int sum = 0;
        for (int k = 0; k < kinds.size(); k++) {
            int[] t = habitOf(k, h);
            for (int draw = 0; draw < 10 && t != null && k != i; draw++) {
                if ((draw < t[2] ? t[0] : t[1]) == place) sum++;
            }
        }
        return sum;
    }

    int watch(int what) {
        if (out(what, 0, 1)) return BAD;
        int most = 0;
        for (int h = 0; h < 4; h++) for (int place = 0; place < 6; place++) most = Math.max(most, twosAt(h, place));
        for (int k = 0; k < 24; k++) if (twosAt(k / 6, k % 6) == most) return what == 0 ? k : most;
        return 0;
    }

    // ---- stamps

    int stamp(int h, int place, int k) {
        if (out(h, 0, 3) || out(place, 0, 5) || out(k, 0, 5)) return BAD;
        if (stamps.size() == 6) return FULL;
        stamps.add(new int[] {h, place, k});
        return stamps.size();
    }

    int forget() {
        int n = stamps.size();
        stamps.clear();
        return n;
    }

    /** All ways as texts of places, alike ones being one text. */
    private TreeSet<String> allWays(int h) {
        TreeSet<String> ways = new TreeSet<>();
        ways.add("");
        for (int i = 0; i < kinds.size(); i++) {
            TreeSet<String> longer = new TreeSet<>();
            int[] t = habitOf(i, h);
            for (String way : ways) {
                longer.add(way + (t == null ? "-" : t[0]));
                longer.add(way + (t == null ? "-" : t[1]));
            }
            ways = longer;
        }
        ways.removeIf(way -> stamps.stream().anyMatch(s -> s[0] == h
            && way.chars().filter(c -> c == '0' + s[1]).count() != s[2]));
        return ways;
    }

    int ways(int h) {
        return out(h, 0, 3) ? BAD : allWays(h).size();
    }

    int sure(int h, int place) {
        if (out(h, 0, 3) || out(place, 0, 5)) return BAD;
        int bits = 0;
        for (int i = 0; i < kinds.size(); i++) {
            int who = i;
            TreeSet<String> ways = allWays(h);
            if (!ways.isEmpty() && ways.stream().allMatch(way -> way.charAt(who) == '0' + place)) bits += 1 << i;
        }
        return bits;
    }

    // ---- laws

    int laws(int n, int d) {
        if (out(n, 1, 30) || out(d, -1, 9)) return BAD;
        for (int ban = 0; ban <= 9 && d < 0; ban++) if (laws(n, ban) > 0) return ban;
        if (d < 0) return NONE;
        List<String> files = new ArrayList<>(now.files);
        int offences = 0;
        for (int k = 0; k < n; k++) offences += addDay(now.day + k, d, files);
        return offences;
    }

    int ahead(int i, int j, int n) {
        if (noTwo(i, j) || out(n, 1, 30)) return BAD;
        for (int k = 0; k < n; k++) if (meet(i, j, now.day + k)) return k;
        return NONE;
    }

    // ---- kept

    int keep() {
        if (kept.size() == 2) return FULL;
        kept.addLast(now.copy());
        return kept.size();
    }

    int back() {
        if (kept.isEmpty()) return NO;
        now = kept.removeLast();
        past.clear();
        return kept.size();
    }

    int count(int what) {
        int[] all = {kinds.size(), now.day, ban, crowd, fine, stamps.size(), past.size(), kept.size(), text.length()};
        return out(what, 0, 8) ? BAD : all[what];
    }
}
