/**
 * A bench that sets fair rents: it works THE HEADS of a HOME from LIKES, registers rents,
 * unwinds them on appeal, and tells what is due and owed on any DAY of a letting.
 */
public final class FairRents {
    public static final int BAD = -1, STATE = -2, FULL = -3, NONE = -9;
    public static final int NO = -1000000000;

    private static final int MOST_HOMES = 8;
    private static final int MOST_LIKES = 12;
    private static final int MOST_ENTRIES = 20;
    private static final int YEAR_DAYS = 10;
    private static final int LAST_YEAR = 30;
    private static final int LAST_DAY = 300;
    private static final int LAST_LAW_DAY = 400;
    private static final int MOST_RENT = 5000;
    private static final int MOST_SUM = 100000;
    private static final int MOST_PAID = 1000000;
    private static final int APPEAL_DAYS = 5;

    private static final int WEIGHT = 3;
    private static final int LESS = 4;
    private static final int STEP = 5;
    private static final int BAR = 6;
    private static final int TOLD_FOR = 7;
    private static final int[] LAW_LEAST = {0, 0, 0, 1, 0, 1, 0, 0};
    private static final int[] LAW_MOST = {90, 90, 90, 9, 20, 500, 60, LAST_YEAR};

    private final Home[] homes;
    private final Like[] likes;
    private final Entry[] entries;
    private final Law[] laws;
    private final Law firstLaw;
    private final Heads heads;
    private final int[] dues;
    private int homesMade;
    private int likesTold;
    private int entriesMade;
    private int today;
    private long traced;

    public FairRents() {
        homes = new Home[MOST_HOMES];
        likes = new Like[MOST_LIKES];
        entries = new Entry[MOST_ENTRIES];
        laws = new Law[LAST_YEAR + 1];
        firstLaw = new Law(new int[] {0, 0, 0, 1, 0, 500, 20, NONE});
        heads = new Heads();
        dues = new int[LAST_DAY + 1];
    }

    // ---- homes, laws, likes

    public int home(int kind, int area, int rooms, int floor) {
        if (!within(kind, 0, 2) || !within(area, 0, 2)
                || !within(rooms, 1, 9) || !within(floor, 0, 9)) {
            return BAD;
        }
        if (homesMade >= homes.length) {
            return FULL;
        }
        homes[homesMade] = new Home(bodyOf(kind, rooms, floor), area);
        homesMade++;
        return homesMade - 1;
    }

    public int faults(int home, int n) {
        Home asked = homeAt(home);
        if (asked == null || !within(n, 0, 9)) {
            return BAD;
        }
        int before = asked.faults;
        asked.faults = n;
        return before;
    }

    public int points(int home) {
        Home asked = homeAt(home);
        if (asked == null) {
            return BAD;
        }
        traced += asked.body.marks();
        return asked.body.worth();
    }

    public int law(int year, int a, int b, int c, int weight, int less, int step, int bar) {
        int[] numbers = {a, b, c, weight, less, step, bar, year};
        if (!lawful(numbers) || !within(year, 0, laws.length - 1)) {
            return BAD;
        }
        if (year * YEAR_DAYS <= today) {
            return STATE;
        }
        laws[year] = new Law(numbers);
        return 1;
    }

    public int force(int day, int what) {
        if (!within(day, 0, LAST_LAW_DAY) || !within(what, 0, TOLD_FOR)) {
            return BAD;
        }
        return lawOn(day).number(what);
    }

    public int like(int area, int points, int rent) {
        if (!within(area, 0, 2) || !within(points, 0, 200) || !within(rent, 1, MOST_RENT)) {
            return BAD;
        }
        if (likesTold >= likes.length) {
            return FULL;
        }
        likes[likesTold] = new Like(area, points, rent, today);
        likesTold++;
        return likesTold - 1;
    }

    public int strike(int like) {
        Like struck = within(like, 0, likes.length - 1) ? likes[like] : null;
        if (struck == null) {
            return BAD;
        }
        if (struck.struck) {
            return STATE;
        }
        struck.struck = true;
        return 1;
    }

    public int days(int n) {
        if (!within(n, 1, 30)) {
            return BAD;
        }
        if (today + n > LAST_DAY) {
            return STATE;
        }
        today += n;
        return today;
    }

    // ---- rents

    public int head(int home, int day, int what) {
        Home asked = homeAt(home);
        if (asked == null || !within(day, 0, LAST_DAY) || !within(what, 0, 4)) {
            return NO;
        }
        heads.work(asked, lawOn(day), likes, day);
        switch (what) {
            case 0: return heads.middle;
            case 1: return heads.scarcity;
            case 2: return heads.repairs;
            case 3: return heads.fairRent();
            default: return heads.counted;
        }
    }

    public int let(int home, int rent) {
        Home asked = homeAt(home);
        if (asked == null || !within(rent, 1, MOST_RENT)) {
            return BAD;
        }
        asked.letting.begin(today, rent);
        return 1;
    }

    public int ask(int home) {
        Home asked = homeAt(home);
        if (asked == null) {
            return BAD;
        }
        if (!asked.letting.isLet() || today < barEnd(home)) {
            return STATE;
        }
        if (entriesMade >= entries.length) {
            return FULL;
        }
        Law law = lawOn(today);
        heads.work(asked, law, likes, today);
        entries[entriesMade] = new Entry(home, asked.letting.number, today, law, heads);
        entriesMade++;
        return entriesMade - 1;
    }

    public int open(int home) {
        if (homeAt(home) == null) {
            return BAD;
        }
        return Math.max(today, barEnd(home));
    }

    public int appeal(int home) {
        if (homeAt(home) == null) {
            return BAD;
        }
        int number = latestStanding(home);
        Entry appealed = entryAt(number);
        if (appealed == null || today - appealed.day > APPEAL_DAYS) {
            return STATE;
        }
        appealed.stands = false;
        return number;
    }

    public int entry(int entry, int what) {
        Entry asked = entryAt(entry);
        if (asked == null) {
            return NO;
        }
        switch (what) {
            case 0: return asked.home;
            case 1: return asked.day;
            case 2: return asked.rent;
            case 3: return asked.middle;
            case 4: return asked.scarcity;
            case 5: return asked.repairs;
            case 6: return asked.stands ? 1 : 0;
            default: return NO;
        }
    }

    public int latest(int home) {
        if (homeAt(home) == null) {
            return BAD;
        }
        return latestStanding(home);
    }

    public int due(int home, int day) {
        Home asked = homeAt(home);
        if (asked == null || !within(day, 0, today)) {
            return BAD;
        }
        if (!asked.letting.covers(day)) {
            return STATE;
        }
        return workDues(home, asked.letting, day);
    }

    public int pay(int home, int sum) {
        Home asked = homeAt(home);
        if (asked == null || !within(sum, 0, MOST_SUM)) {
            return BAD;
        }
        if (!asked.letting.isLet()) {
            return STATE;
        }
        if (asked.letting.paid + sum > MOST_PAID) {
            return FULL;
        }
        asked.letting.take(today, sum);
        return asked.letting.paid;
    }

    public int owed(int home, int day) {
        Home asked = homeAt(home);
        if (asked == null || !within(day, 0, today) || !asked.letting.covers(day)) {
            return NO;
        }
        Letting letting = asked.letting;
        workDues(home, letting, day);
        int sum = 0;
        for (int d = Math.max(letting.first, 0); d <= day && d < dues.length; d++) {
            sum += dues[d] - letting.paidOn(d);
        }
        return sum;
    }

    public int count(int what) {
        switch (what) {
            case 0: return homesMade;
            case 1: return likesTold;
            case 2: return entriesMade;
            case 3: return today;
            case 4: return homesLet();
            case 5: return lawsTold();
            default: return BAD;
        }
    }

    public long trace() {
        return traced;
    }

    // ---- what the calls are made of

    private static boolean within(int number, int least, int most) {
        return number >= least && number <= most;
    }

    private static boolean lawful(int[] numbers) {
        for (int i = 0; i < numbers.length && i < LAW_LEAST.length && i < LAW_MOST.length; i++) {
            if (!within(numbers[i], LAW_LEAST[i], LAW_MOST[i])) {
                return false;
            }
        }
        return true;
    }

    private static Plain bodyOf(int kind, int rooms, int floor) {
        switch (kind) {
            case 0: return new Plain(rooms);
            case 1: return new Flat(rooms, floor);
            default: return new Old(rooms, floor);
        }
    }

    private Home homeAt(int number) {
        return within(number, 0, homes.length - 1) ? homes[number] : null;
    }

    private Entry entryAt(int number) {
        return within(number, 0, entries.length - 1) ? entries[number] : null;
    }

    private Law lawOn(int day) {
        int year = Math.min(day / YEAR_DAYS, laws.length - 1);
        for (int y = year; y >= 0; y--) {
            if (laws[y] != null) {
                return laws[y];
            }
        }
        return firstLaw;
    }

    /** Entries are made as the DAYS go by, so the highest number is the latest. */
    private int latestStanding(int home) {
        for (int i = entries.length - 1; i >= 0; i--) {
            Entry entry = entries[i];
            if (entry != null && entry.stands && entry.home == home) {
                return i;
            }
        }
        return NONE;
    }

    /** The BAR outlives a letting, so entries of lettings gone by hold it too. */
    private int barEnd(int home) {
        Entry latest = entryAt(latestStanding(home));
        return latest == null ? 0 : latest.day + latest.law.number(BAR);
    }

    /**
     * Fills dues from the letting's first DAY up to last, and answers the last one. Going
     * forward day by day, the DUE of the DAY before an entry is at hand when the entry comes.
     */
    private int workDues(int home, Letting letting, int last) {
        Entry inForce = null;
        int before = letting.rent;
        int yesterday = letting.rent;
        int next = 0;
        for (int day = Math.max(letting.first, 0); day <= last && day < dues.length; day++) {
            for (; next < entries.length; next++) {
                Entry entry = entries[next];
                if (entry == null || entry.day > day) {
                    break;
                }
                if (entry.binds(home, letting.number)) {
                    inForce = entry;
                    before = yesterday;
                }
            }
            dues[day] = inForce == null ? letting.rent : inForce.steppedFrom(before, day);
            yesterday = dues[day];
        }
        return yesterday;
    }

    private int homesLet() {
        int n = 0;
        for (Home home : homes) {
            if (home != null && home.letting.isLet()) {
                n++;
            }
        }
        return n;
    }

    private int lawsTold() {
        int n = 0;
        for (Law law : laws) {
            if (law != null) {
                n++;
            }
        }
        return n;
    }

    /** The KIND that stands over all others. */
    private static class Plain {
        private final int rooms;

        Plain(int rooms) {
            this.rooms = rooms;
        }

        /** ITS POINTS. */
        int worth() {
            return 10 * rooms;
        }

        /** What comes to THE TRACE when points() asks; kept apart, as THE HEADS leave none. */
        int marks() {
            return 1;
        }
    }

    private static class Flat extends Plain {
        private final int floor;

        Flat(int rooms, int floor) {
            super(rooms);
            this.floor = floor;
        }

        int worth() {
            return super.worth() - 2 * floor;
        }

        int marks() {
            return super.marks() + 10;
        }
    }

    private static final class Old extends Flat {
        Old(int rooms, int floor) {
            super(rooms, floor);
        }

        int worth() {
            int up = super.worth();
            // A FLAT high up has POINTS below 0, and its quarter is rounded down as well.
            return up - Math.floorDiv(up, 4);
        }

        int marks() {
            return super.marks() + 100;
        }
    }

    private static final class Home {
        final Plain body;
        final int area;
        final Letting letting;
        int faults;

        Home(Plain body, int area) {
            this.body = body;
            this.area = area;
            this.letting = new Letting();
        }
    }

    /** The letting of a HOME: one object, begun anew each time; number 0 is none yet. */
    private static final class Letting {
        private final int[] sums = new int[LAST_DAY + 1];
        int number;
        int first;
        int rent;
        int paid;

        boolean isLet() {
            return number > 0;
        }

        boolean covers(int day) {
            return isLet() && day >= first;
        }

        void begin(int day, int newRent) {
            number++;
            first = day;
            rent = newRent;
            paid = 0;
            for (int d = 0; d < sums.length; d++) {
                sums[d] = 0;
            }
        }

        void take(int day, int sum) {
            if (within(day, 0, sums.length - 1)) {
                sums[day] += sum;
                paid += sum;
            }
        }

        int paidOn(int day) {
            return within(day, 0, sums.length - 1) ? sums[day] : 0;
        }
    }

    /** The numbers of a LAW, in the order in which force() asks for them. */
    private static final class Law {
        private final int[] numbers;

        Law(int[] numbers) {
            this.numbers = numbers;
        }

        int number(int what) {
            return within(what, 0, numbers.length - 1) ? numbers[what] : NONE;
        }
    }

    private static final class Like {
        private final int area;
        private final int points;
        private final int rent;
        private final int day;
        boolean struck;

        Like(int area, int points, int rent, int day) {
            this.area = area;
            this.points = points;
            this.rent = rent;
            this.day = day;
        }

        boolean countsFor(int homeArea, int onDay) {
            return !struck && area == homeArea && day <= onDay;
        }

        int putRight(int homePoints, int weight) {
            return rent + weight * (homePoints - points);
        }
    }

    /** THE HEADS of a HOME on a DAY: one object, worked anew for each question. */
    private static final class Heads {
        private final int[] ordered = new int[MOST_LIKES];
        int counted;
        int middle;
        int scarcity;
        int repairs;

        void work(Home home, Law law, Like[] likes, int day) {
            counted = 0;
            int points = home.body.worth();
            for (Like like : likes) {
                if (like != null && like.countsFor(home.area, day)) {
                    insert(like.putRight(points, law.number(WEIGHT)));
                }
            }
            middle = lowerMiddle();
            scarcity = middle < 0 ? 0 : -(law.number(home.area) * middle / 100);
            repairs = -(law.number(LESS) * home.faults);
        }

        int fairRent() {
            return Math.max(1, middle + scarcity + repairs);
        }

        private void insert(int rent) {
            if (!within(counted, 0, ordered.length - 1)) {
                return;
            }
            int at = counted;
            for (; at > 0 && ordered[at - 1] > rent; at--) {
                ordered[at] = ordered[at - 1];
            }
            ordered[at] = rent;
            counted++;
        }

        private int lowerMiddle() {
            int at = (counted - 1) / 2;
            return counted > 0 && at < ordered.length ? ordered[at] : 0;
        }
    }

    /** A rent REGISTERED; it keeps its own HEADS, as FAULTS and LIKES may change later. */
    private static final class Entry {
        final int home;
        final int letting;
        final int day;
        final Law law;
        final int rent;
        final int middle;
        final int scarcity;
        final int repairs;
        boolean stands;

        Entry(int home, int letting, int day, Law law, Heads heads) {
            this.home = home;
            this.letting = letting;
            this.day = day;
            this.law = law;
            rent = heads.fairRent();
            middle = heads.middle;
            scarcity = heads.scarcity;
            repairs = heads.repairs;
            stands = true;
        }

        boolean binds(int ofHome, int ofLetting) {
            return stands && home == ofHome && letting == ofLetting;
        }

        /** DUE on a DAY of this entry, with what was due on the DAY before it. */
        int steppedFrom(int before, int onDay) {
            if (rent <= before) {
                return rent;
            }
            int yearsBegun = (onDay - day) / YEAR_DAYS + 1;
            return Math.min(rent, before + law.number(STEP) * yearsBegun);
        }
    }
}
