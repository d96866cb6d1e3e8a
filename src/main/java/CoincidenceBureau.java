import java.util.Arrays;

/** A bureau of coincidences; its document holds the promises and the words in capitals. */
public final class CoincidenceBureau {
    public static final int BAD = -1, NO = -2, FULL = -3, NONE = -4;

    private static final int PERSONS = 5;
    private static final int HOURS = 4;
    private static final int PLACES = 6;
    private static final int HABITS = 20;
    private static final int TWOS = 10;
    private static final int NUMBERS = 5;
    private static final int LONGEST_TEXT = 200;
    private static final int LAST_DAY = 999;
    private static final int MOST_DAYS = 30;
    private static final int LONGEST_BAN = 9;
    private static final int MOST_CHANGES = 8;
    private static final int MOST_STAMPS = 6;
    private static final int MOST_KEPT = 2;
    private static final int CLERK = 1;
    private static final int TWIN = 2;
    private static final int STRANGER = 3;
    private static final int NOWHERE = -1;
    private static final int CERTAIN = 100_000_000;
    private static final String FIRST_TOWN =
        "p0;p0;p2;p3;h0,0,1,2,5;h0,1,3,3,0;h1,0,1,4,4;h1,1,3,0,7;h2,0,2,1,5;h2,2,5,5,1;h3,0,1,1,9;h3,2,5,0,2;l0,3;n3;c4;f5;z2;";

    private final Text text;
    private Town town;
    private Town draft;
    private final Files files;
    private final Changes changes;
    private final Stamps stamps;
    private final Kept keptFirst;
    private final Kept keptSecond;
    private int keptSize;
    private final Lookout lookout;

    public CoincidenceBureau() {
        text = new Text();
        town = new Town();
        draft = new Town();
        files = new Files();
        changes = new Changes();
        stamps = new Stamps();
        keptFirst = new Kept();
        keptSecond = new Kept();
        keptSize = 0;
        lookout = new Lookout();
        for (int k = 0; k < FIRST_TOWN.length(); k++) {
            text.append(FIRST_TOWN.charAt(k));
        }
        text.readInto(town);
        text.size = 0;
    }

    // ---- towns

    public int write(int letter) {
        if (letter < 32 || letter > 126) {
            return BAD;
        }
        return text.append((char) letter) ? text.size : FULL;
    }

    public int wipe() {
        int was = text.size;
        text.size = 0;
        return was;
    }

    public int fault() {
        return text.readInto(draft);
    }

    public int lay() {
        if (text.readInto(draft) != NONE || draft.persons == 0) {
            return NO;
        }
        Town laid = draft;
        draft = town;
        town = laid;
        files.clear();
        changes.size = 0;
        stamps.size = 0;
        keptSize = 0;
        return town.persons;
    }

    public int habit(int i, int h, int what) {
        if (!isPerson(i) || !isHour(h) || !within(what, 0, 2)) {
            return BAD;
        }
        int slot = slotOf(i, h);
        if (!town.hasHabit(slot)) {
            return NONE;
        }
        if (what == 0) {
            return town.placeA[slot];
        }
        return what == 1 ? town.placeB[slot] : town.tenths[slot];
    }

    public int kind(int i) {
        return isPerson(i) ? town.kinds[i] : BAD;
    }

    public int leave(int i, int j) {
        if (!areTwo(i, j)) {
            return BAD;
        }
        return town.leaves >> twoOf(i, j) & 1;
    }

    // ---- days

    public int pass(int n) {
        if (!within(n, 1, MOST_DAYS)) {
            return BAD;
        }
        if (files.day + n > LAST_DAY) {
            return NO;
        }
        int before = files.coincidences;
        for (int k = 0; k < n; k++) {
            int met = lookout.meeting(town, files.day);
            files.enter(met, town.unlawfulAmong(met, files.metLately(town.ban)));
            // the document undoes "a DAY", so each one is a change of its own
            changes.noteDay();
        }
        return files.coincidences - before;
    }

    public int permit(int i, int j) {
        if (!areTwo(i, j)) {
            return BAD;
        }
        int two = twoOf(i, j);
        changes.noteLeave(two);
        town.leaves ^= 1 << two;
        return town.leaves >> two & 1;
    }

    public int alter(int i, int h, int c) {
        if (!isPerson(i) || !isHour(h) || !within(c, 0, 10)) {
            return BAD;
        }
        int slot = slotOf(i, h);
        if (!town.hasHabit(slot)) {
            return NO;
        }
        int was = town.tenths[slot];
        changes.noteHabit(slot, was);
        town.tenths[slot] = c;
        return was;
    }

    public int undo() {
        if (changes.size == 0) {
            return NO;
        }
        changes.takeBackLast(town, files);
        return changes.size;
    }

    public int where(int i, int h, int d) {
        if (!isPerson(i) || !isHour(h) || !within(d, 0, MOST_DAYS)) {
            return BAD;
        }
        int place = town.placeOn(i, h, files.day + d);
        return place == NOWHERE ? NONE : place;
    }

    public int filed(int what) {
        switch (what) {
            case 0:
                return files.coincidences;
            case 1:
                return files.offences;
            case 2:
                return files.offences * town.fine;
            default:
                return BAD;
        }
    }

    public int first() {
        return files.firstOffence;
    }

    public int often(int i, int j) {
        return areTwo(i, j) ? files.times[twoOf(i, j)] : BAD;
    }

    // ---- how likely

    public int together(int i, int j, int h, int part) {
        if (!areTwo(i, j) || !isHour(h) || !isPart(part)) {
            return BAD;
        }
        return partOf(town.hundredthsTogether(i, j, h), 100, part);
    }

    public int meets(int i, int j, int part) {
        if (!areTwo(i, j) || !isPart(part)) {
            return BAD;
        }
        return partOf(town.chanceToMeet(i, j), CERTAIN, part);
    }

    public int mean(int part) {
        if (!isPart(part)) {
            return BAD;
        }
        int above = 0;
        for (int h = 0; h < HOURS; h++) {
            for (int place = 0; place < PLACES; place++) {
                above += town.hundredthsOfTwos(h, place);
            }
        }
        return partOf(above, 100, part);
    }

    public int least(int i, int j, int y, int what) {
        if (!areTwo(i, j) || !within(y, 1, 10) || !within(what, 0, 1)) {
            return BAD;
        }
        int enough = CERTAIN / 10 * y;
        if (town.chanceToMeet(i, j) >= enough) {
            return what == 0 ? NONE : 0;
        }
        int found = leastAlteration(Math.min(i, j), Math.max(i, j), enough);
        if (found == NONE || what == 0) {
            return found;
        }
        int was = town.tenths[slotOf(found / 1000, found / 100 % 10)];
        return Math.abs(found % 100 - was);
    }

    public int avoid(int i) {
        if (!isPerson(i)) {
            return BAD;
        }
        int bits = 0;
        for (int h = 0; h < HOURS; h++) {
            if (town.isEmptierAtB(i, h)) {
                bits |= 1 << h;
            }
        }
        return bits;
    }

    public int watch(int what) {
        if (!within(what, 0, 1)) {
            return BAD;
        }
        int best = 0;
        int most = 0;
        for (int spot = 0; spot < HOURS * PLACES; spot++) {
            int twos = town.hundredthsOfTwos(spot / PLACES, spot % PLACES);
            if (twos > most) {
                most = twos;
                best = spot;
            }
        }
        return what == 0 ? best : most;
    }

    // ---- stamps

    public int stamp(int h, int place, int k) {
        if (!isHour(h) || !isPlace(place) || !within(k, 0, PERSONS)) {
            return BAD;
        }
        return stamps.append(h, place, k) ? stamps.size : FULL;
    }

    public int forget() {
        int were = stamps.size;
        stamps.size = 0;
        return were;
    }

    public int ways(int h) {
        if (!isHour(h)) {
            return BAD;
        }
        int number = 0;
        for (int atB = 0; atB < 1 << PERSONS; atB++) {
            if (stamps.allow(town, h, atB)) {
                number++;
            }
        }
        return number;
    }

    public int sure(int h, int place) {
        if (!isHour(h) || !isPlace(place)) {
            return BAD;
        }
        boolean any = false;
        int there = (1 << PERSONS) - 1;
        for (int atB = 0; atB < 1 << PERSONS; atB++) {
            if (stamps.allow(town, h, atB)) {
                any = true;
                there &= town.personsAt(h, place, atB);
            }
        }
        return any ? there : 0;
    }

    // ---- laws

    public int laws(int n, int d) {
        if (!within(n, 1, MOST_DAYS) || !within(d, -1, LONGEST_BAN)) {
            return BAD;
        }
        lookout.lookAhead(town, files, n);
        if (d >= 0) {
            return lookout.offencesUnder(town, n, d);
        }
        for (int ban = 0; ban <= LONGEST_BAN; ban++) {
            if (lookout.offencesUnder(town, n, ban) > 0) {
                return ban;
            }
        }
        return NONE;
    }

    public int ahead(int i, int j, int n) {
        if (!areTwo(i, j) || !within(n, 1, MOST_DAYS)) {
            return BAD;
        }
        int two = twoOf(i, j);
        for (int k = 0; k < n; k++) {
            if ((lookout.meeting(town, files.day + k) >> two & 1) != 0) {
                return k;
            }
        }
        return NONE;
    }

    // ---- kept

    public int keep() {
        if (keptSize == MOST_KEPT) {
            return FULL;
        }
        keptBehind(keptSize).take(town, files);
        keptSize++;
        return keptSize;
    }

    public int back() {
        if (keptSize == 0) {
            return NO;
        }
        keptSize--;
        keptBehind(keptSize).giveBack(town, files);
        changes.size = 0;
        return keptSize;
    }

    public int count(int what) {
        switch (what) {
            case 0:
                return town.persons;
            case 1:
                return files.day;
            case 2:
                return town.ban;
            case 3:
                return town.crowd;
            case 4:
                return town.fine;
            case 5:
                return stamps.size;
            case 6:
                return changes.size;
            case 7:
                return keptSize;
            case 8:
                return text.size;
            default:
                return BAD;
        }
    }

    // ---- what numbers are told

    private static boolean within(int number, int low, int high) {
        return number >= low && number <= high;
    }

    private static boolean isHour(int h) {
        return within(h, 0, HOURS - 1);
    }

    private static boolean isPlace(int place) {
        return within(place, 0, PLACES - 1);
    }

    private static boolean isPart(int part) {
        return within(part, 0, 1);
    }

    private boolean isPerson(int i) {
        return within(i, 0, town.persons - 1);
    }

    private boolean areTwo(int i, int j) {
        return isPerson(i) && isPerson(j) && i != j;
    }

    private Kept keptBehind(int others) {
        return others == 0 ? keptFirst : keptSecond;
    }

    // ---- reckoning

    private static int slotOf(int i, int h) {
        return i * HOURS + h;
    }

    /** A number for each two, the same for i, j as for j, i. */
    private static int twoOf(int i, int j) {
        int high = Math.max(i, j);
        return high * (high - 1) / 2 + Math.min(i, j);
    }

    private static int partOf(int above, int below, int part) {
        int common = commonDivisor(above, below);
        if (common == 0) {
            return 0;
        }
        return part == 0 ? above / common : below / common;
    }

    private static int commonDivisor(int a, int b) {
        int big = a;
        int small = b;
        // Euclid's steps are fewer than 50 for any two ints
        for (int k = 0; k < 64 && small != 0; k++) {
            int rest = big % small;
            big = small;
            small = rest;
        }
        return big;
    }

    private int leastAlteration(int low, int high, int enough) {
        int found = NONE;
        int least = 11;
        for (int k = 0; k < 2 * HOURS; k++) {
            int i = k < HOURS ? low : high;
            int h = k % HOURS;
            int slot = slotOf(i, h);
            int was = town.tenths[slot];
            for (int c = 0; c <= 10 && town.hasHabit(slot); c++) {
                int change = Math.abs(c - was);
                if (change < least && town.chanceWith(slot, c, low, high) >= enough) {
                    least = change;
                    found = 1000 * i + 100 * h + c;
                }
            }
        }
        return found;
    }

    /** THE TEXT, and how it is read. */
    private static final class Text {
        final char[] letters = new char[LONGEST_TEXT];
        final int[] numbers = new int[NUMBERS];
        int size;
        int next;

        boolean append(char letter) {
            if (size < 0 || size >= letters.length) {
                return false;
            }
            letters[size] = letter;
            size++;
            return true;
        }

        /** The FAULT or NONE; the town is of use only if there is none. */
        int readInto(Town town) {
            town.clear();
            next = 0;
            for (int k = 0; k < LONGEST_TEXT && next < size; k++) {
                int start = next;
                if (!readItem(town)) {
                    return start;
                }
            }
            return NONE;
        }

        private boolean readItem(Town town) {
            char letter = letterAt(next);
            int due = numbersOf(letter);
            next++;
            for (int k = 0; k < due; k++) {
                char end = k == due - 1 ? ';' : ',';
                if (!readNumber(k) || letterAt(next) != end) {
                    return false;
                }
                next++;
            }
            return due > 0 && town.takeItem(letter, numbers);
        }

        private boolean readNumber(int k) {
            if (!isFigure(letterAt(next)) || k < 0 || k >= numbers.length) {
                return false;
            }
            int number = letterAt(next) - '0';
            next++;
            if (isFigure(letterAt(next))) {
                number = 10 * number + letterAt(next) - '0';
                next++;
            }
            numbers[k] = number;
            return true;
        }

        /** Behind the end there is a letter that fits nowhere. */
        private char letterAt(int place) {
            return place >= 0 && place < size && place < letters.length ? letters[place] : (char) 0;
        }

        private static boolean isFigure(char letter) {
            return letter >= '0' && letter <= '9';
        }

        private static int numbersOf(char letter) {
            switch (letter) {
                case 'h':
                    return 5;
                case 'l':
                    return 2;
                case 'p':
                case 'n':
                case 'c':
                case 'f':
                case 'z':
                    return 1;
                default:
                    return 0;
            }
        }
    }

    /** What is LAID, with LEAVES and HABITS as they stand, and what follows from these alone. */
    private static final class Town {
        final int[] kinds = new int[PERSONS];
        final int[] placeA = new int[HABITS];
        final int[] placeB = new int[HABITS];
        final int[] tenths = new int[HABITS];
        int persons;
        int leaves;
        int ban;
        int crowd;
        int fine;
        int seed;

        void clear() {
            Arrays.fill(placeA, NOWHERE);
            Arrays.fill(placeB, NOWHERE);
            Arrays.fill(tenths, 0);
            persons = 0;
            leaves = 0;
            ban = 3;
            crowd = 4;
            fine = 5;
            seed = 0;
        }

        boolean takeItem(char letter, int[] numbers) {
            if (numbers.length < NUMBERS) {
                return false;
            }
            int number = numbers[0];
            switch (letter) {
                case 'p':
                    return takePerson(number);
                case 'h':
                    return takeHabit(numbers);
                case 'l':
                    return takeLeave(number, numbers[1]);
                case 'n':
                    ban = number;
                    return within(number, 0, LONGEST_BAN);
                case 'c':
                    crowd = number;
                    return within(number, 2, 6);
                case 'f':
                    fine = number;
                    return within(number, 0, 20);
                case 'z':
                    seed = number;
                    return within(number, 0, 99);
                default:
                    return false;
            }
        }

        private boolean takePerson(int kind) {
            if (persons < 0 || persons >= PERSONS || !within(kind, 0, STRANGER)) {
                return false;
            }
            kinds[persons] = kind;
            persons++;
            return true;
        }

        private boolean takeHabit(int[] numbers) {
            if (numbers.length < NUMBERS) {
                return false;
            }
            if (!isTold(numbers[0]) || !isHour(numbers[1])) {
                return false;
            }
            if (!isPlace(numbers[2]) || !isPlace(numbers[3]) || !within(numbers[4], 0, 10)) {
                return false;
            }
            int slot = slotOf(numbers[0], numbers[1]);
            placeA[slot] = numbers[2];
            placeB[slot] = numbers[3];
            tenths[slot] = numbers[4];
            return true;
        }

        private boolean takeLeave(int i, int j) {
            if (!isTold(i) || !isTold(j) || i == j) {
                return false;
            }
            leaves |= 1 << twoOf(i, j);
            return true;
        }

        private boolean isTold(int i) {
            return within(i, 0, persons - 1);
        }

        boolean hasHabit(int slot) {
            return placeA[slot] != NOWHERE;
        }

        int placeOn(int i, int h, int day) {
            int slot = slotOf(i, h);
            return draw(i, h, day) < tenths[slot] ? placeA[slot] : placeB[slot];
        }

        private int draw(int i, int h, int day) {
            long x = 7919L * seed + 6151L * day + 3571L * i + 1013L * h + 1;
            return (int) (x * x % 65521 / 8 % 10);
        }

        /** Twos as bits: of those that met, the UNLAWFUL ones, lately being those within the ban. */
        int unlawfulAmong(int met, int lately) {
            int bits = 0;
            for (int j = 1; j < persons; j++) {
                for (int i = 0; i < j; i++) {
                    int bit = 1 << twoOf(i, j);
                    if ((met & bit) != 0 && isUnlawful(i, j, (lately & bit) != 0)) {
                        bits |= bit;
                    }
                }
            }
            return bits;
        }

        private boolean isUnlawful(int i, int j, boolean again) {
            if ((leaves >> twoOf(i, j) & 1) != 0 || kinds[i] == CLERK || kinds[j] == CLERK) {
                return false;
            }
            if (kinds[i] == STRANGER || kinds[j] == STRANGER) {
                return true;
            }
            return again && (kinds[i] != TWIN || kinds[j] != TWIN);
        }

        private int tenthsAt(int i, int h, int place) {
            int slot = slotOf(i, h);
            int atA = placeA[slot] == place ? tenths[slot] : 0;
            int atB = placeB[slot] == place ? 10 - tenths[slot] : 0;
            return atA + atB;
        }

        int hundredthsTogether(int i, int j, int h) {
            int sum = 0;
            for (int place = 0; place < PLACES; place++) {
                sum += tenthsAt(i, h, place) * tenthsAt(j, h, place);
            }
            return sum;
        }

        int chanceToMeet(int i, int j) {
            int apart = 1;
            for (int h = 0; h < HOURS; h++) {
                apart *= 100 - hundredthsTogether(i, j, h);
            }
            return CERTAIN - apart;
        }

        int chanceWith(int slot, int c, int i, int j) {
            int was = tenths[slot];
            tenths[slot] = c;
            int chance = chanceToMeet(i, j);
            tenths[slot] = was;
            return chance;
        }

        int hundredthsOfTwos(int h, int place) {
            int sum = 0;
            for (int j = 1; j < persons; j++) {
                for (int i = 0; i < j; i++) {
                    sum += tenthsAt(i, h, place) * tenthsAt(j, h, place);
                }
            }
            return sum;
        }

        boolean isEmptierAtB(int i, int h) {
            int slot = slotOf(i, h);
            return hasHabit(slot) && othersAt(i, h, placeB[slot]) < othersAt(i, h, placeA[slot]);
        }

        private int othersAt(int i, int h, int place) {
            int sum = 0;
            for (int j = 0; j < persons; j++) {
                if (j != i) {
                    sum += tenthsAt(j, h, place);
                }
            }
            return sum;
        }

        /** Whether the persons of these bits had a second place to be at. */
        boolean canBeAtB(int h, int atB) {
            for (int i = 0; i < PERSONS; i++) {
                int slot = slotOf(i, h);
                boolean oneWay = i >= persons || placeA[slot] == placeB[slot];
                if (oneWay && (atB >> i & 1) != 0) {
                    return false;
                }
            }
            return true;
        }

        /** Persons as bits: who is at the place, if those of the bits atB are at B. */
        int personsAt(int h, int place, int atB) {
            int bits = 0;
            for (int i = 0; i < persons; i++) {
                int slot = slotOf(i, h);
                int spot = (atB >> i & 1) != 0 ? placeB[slot] : placeA[slot];
                if (spot == place) {
                    bits |= 1 << i;
                }
            }
            return bits;
        }
    }

    /** Who MEET on a DAY, and what laws would make of it. */
    private static final class Lookout {
        final int[] spots = new int[PERSONS];
        final int[] heads = new int[PLACES];
        // the days that a ban can reach back to, then those ahead
        final int[] met = new int[LONGEST_BAN + MOST_DAYS];

        /** Twos as bits. */
        int meeting(Town town, int day) {
            int bits = 0;
            for (int h = 0; h < HOURS; h++) {
                bits |= meetingIn(town, h, day);
            }
            return bits;
        }

        private int meetingIn(Town town, int h, int day) {
            seek(town, h, day);
            int bits = 0;
            for (int j = 1; j < town.persons; j++) {
                int spot = spots[j];
                boolean open = isPlace(spot) && heads[spot] < town.crowd;
                for (int i = 0; i < j; i++) {
                    if (open && spots[i] == spot) {
                        bits |= 1 << twoOf(i, j);
                    }
                }
            }
            return bits;
        }

        private void seek(Town town, int h, int day) {
            Arrays.fill(heads, 0);
            for (int i = 0; i < town.persons; i++) {
                int spot = town.placeOn(i, h, day);
                spots[i] = spot;
                if (isPlace(spot)) {
                    heads[spot]++;
                }
            }
        }

        void lookAhead(Town town, Files files, int n) {
            for (int k = 0; k < LONGEST_BAN; k++) {
                met[k] = files.metOn(files.day - LONGEST_BAN + k);
            }
            for (int k = 0; k < n && k < MOST_DAYS; k++) {
                met[LONGEST_BAN + k] = meeting(town, files.day + k);
            }
        }

        int offencesUnder(Town town, int n, int ban) {
            int sum = 0;
            for (int k = 0; k < n && k < MOST_DAYS; k++) {
                int lately = 0;
                for (int ago = 1; ago <= ban && ago <= LONGEST_BAN; ago++) {
                    lately |= met[LONGEST_BAN + k - ago];
                }
                sum += Integer.bitCount(town.unlawfulAmong(met[LONGEST_BAN + k], lately));
            }
            return sum;
        }
    }

    /** What was FILED, by DAYS; twos are bits. */
    private static final class Files {
        final int[] met = new int[LAST_DAY];
        final int[] unlawful = new int[LAST_DAY];
        final int[] times = new int[TWOS];
        int day;
        int coincidences;
        int offences;
        int firstOffence = NONE;

        void clear() {
            Arrays.fill(times, 0);
            day = 0;
            coincidences = 0;
            offences = 0;
            firstOffence = NONE;
        }

        int metOn(int when) {
            return when >= 0 && when < day && when < LAST_DAY ? met[when] : 0;
        }

        int metLately(int ban) {
            int bits = 0;
            for (int ago = 1; ago <= ban; ago++) {
                bits |= metOn(day - ago);
            }
            return bits;
        }

        void enter(int metNow, int unlawfulNow) {
            if (day < 0 || day >= LAST_DAY) {
                return;
            }
            met[day] = metNow;
            unlawful[day] = unlawfulNow;
            reckon(metNow, unlawfulNow, 1);
            if (unlawfulNow != 0 && firstOffence == NONE) {
                firstOffence = day;
            }
            day++;
        }

        void takeBackDay() {
            if (day < 1 || day > LAST_DAY) {
                return;
            }
            day--;
            reckon(met[day], unlawful[day], -1);
            if (firstOffence == day) {
                firstOffence = NONE;
            }
        }

        private void reckon(int metThen, int unlawfulThen, int sign) {
            coincidences += sign * Integer.bitCount(metThen);
            offences += sign * Integer.bitCount(unlawfulThen);
            for (int two = 0; two < TWOS; two++) {
                times[two] += sign * (metThen >> two & 1);
            }
        }

        void copyFrom(Files other) {
            int days = Math.max(0, Math.min(other.day, LAST_DAY));
            System.arraycopy(other.met, 0, met, 0, days);
            System.arraycopy(other.unlawful, 0, unlawful, 0, days);
            System.arraycopy(other.times, 0, times, 0, TWOS);
            day = days;
            coincidences = other.coincidences;
            offences = other.offences;
            firstOffence = other.firstOffence;
        }
    }

    /** The last changes, the latest one behind the others. */
    private static final class Changes {
        private static final int DAY = 0;
        private static final int LEAVE = 1;
        private static final int HABIT = 2;

        final int[] sorts = new int[MOST_CHANGES];
        final int[] whose = new int[MOST_CHANGES];
        final int[] tenthsWere = new int[MOST_CHANGES];
        int size;

        void noteDay() {
            note(DAY, 0, 0);
        }

        void noteLeave(int two) {
            note(LEAVE, two, 0);
        }

        void noteHabit(int slot, int was) {
            note(HABIT, slot, was);
        }

        private void note(int sort, int who, int was) {
            if (size >= MOST_CHANGES) {
                dropOldest();
            }
            if (size < 0 || size >= MOST_CHANGES) {
                return;
            }
            sorts[size] = sort;
            whose[size] = who;
            tenthsWere[size] = was;
            size++;
        }

        private void dropOldest() {
            size = MOST_CHANGES - 1;
            System.arraycopy(sorts, 1, sorts, 0, size);
            System.arraycopy(whose, 1, whose, 0, size);
            System.arraycopy(tenthsWere, 1, tenthsWere, 0, size);
        }

        void takeBackLast(Town town, Files files) {
            if (size < 1 || size > MOST_CHANGES) {
                return;
            }
            size--;
            int who = whose[size];
            if (sorts[size] == DAY) {
                files.takeBackDay();
            } else if (sorts[size] == LEAVE) {
                town.leaves ^= 1 << who;
            } else if (within(who, 0, HABITS - 1)) {
                town.tenths[who] = tenthsWere[size];
            }
        }
    }

    private static final class Stamps {
        final int[] hours = new int[MOST_STAMPS];
        final int[] places = new int[MOST_STAMPS];
        final int[] heads = new int[MOST_STAMPS];
        int size;

        boolean append(int h, int place, int k) {
            if (size < 0 || size >= MOST_STAMPS) {
                return false;
            }
            hours[size] = h;
            places[size] = place;
            heads[size] = k;
            size++;
            return true;
        }

        /** Whether it is one of the WAYS of the HOUR that those of the bits were at B, the others at A. */
        boolean allow(Town town, int h, int atB) {
            if (!town.canBeAtB(h, atB)) {
                return false;
            }
            for (int k = 0; k < size && k < MOST_STAMPS; k++) {
                if (hours[k] == h && Integer.bitCount(town.personsAt(h, places[k], atB)) != heads[k]) {
                    return false;
                }
            }
            return true;
        }
    }

    /** DAYS, files, LEAVES and HABITS as they once stood. */
    private static final class Kept {
        final Files files = new Files();
        final int[] tenths = new int[HABITS];
        int leaves;

        void take(Town town, Files now) {
            files.copyFrom(now);
            System.arraycopy(town.tenths, 0, tenths, 0, HABITS);
            leaves = town.leaves;
        }

        void giveBack(Town town, Files now) {
            now.copyFrom(files);
            System.arraycopy(tenths, 0, town.tenths, 0, HABITS);
            town.leaves = leaves;
        }
    }
}
