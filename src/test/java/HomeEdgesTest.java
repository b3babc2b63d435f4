/** The edges of promises 1 to 4: a new object, homes, their faults and points. */
public final class HomeEdgesTest {
    private static final Check C = new Check();
    private static final int BAD = FairRents.BAD, STATE = FairRents.STATE, FULL = FairRents.FULL;
    private static final int NONE = FairRents.NONE, NO = FairRents.NO;

    public static void main(String[] args) {
        p1Day0();
        p1NoHomes();
        p1NoLawsTold();
        p1NoLikes();
        p1NoEntries();
        p1NothingIsShared();
        p2Kinds();
        p2Areas();
        p2Rooms();
        p2Floors();
        p2RefusedNumbersChangeNothing();
        p2EightAtMost();
        p2BadBeforeFull();
        p3FaultsRange();
        p3NoneAtFirst();
        p3NoSuchHome();
        p3DaysGoneBy();
        p3EntriesStay();
        p3RefusedChangesNothing();
        p4EveryHome();
        p4QuarterRoundedDown();
        p4QuarterRoundedDownBelow0();
        p4NoSuchHome();
        C.end();
    }

    /** "DAY 0" */
    private static void p1Day0() {
        FairRents x = new FairRents();
        C.is("1: TODAY", x.count(3), 0);
        C.is("1: a DAY later", x.days(1), 1);
        FairRents y = new FairRents();
        C.is("1: 30 DAYS later", y.days(30), 30);
    }

    /** "no HOMES": each call that takes one refuses it. */
    private static void p1NoHomes() {
        FairRents x = new FairRents();
        C.is("1: HOMES", x.count(0), 0);
        C.is("1: HOMES that are let", x.count(4), 0);
        for (int h = 0; h < 8; h++) {
            C.is("1: faults", x.faults(h, 0), BAD);
            C.is("1: points", x.points(h), BAD);
            C.is("1: head", x.head(h, 0, 0), NO);
            C.is("1: let", x.let(h, 1), BAD);
            C.is("1: ask", x.ask(h), BAD);
            C.is("1: open", x.open(h), BAD);
            C.is("1: appeal", x.appeal(h), BAD);
            C.is("1: latest", x.latest(h), BAD);
            C.is("1: due", x.due(h, 0), BAD);
            C.is("1: pay", x.pay(h, 0), BAD);
            C.is("1: owed", x.owed(h, 0), NO);
        }
        C.is("1: the first HOME's number", x.home(0, 0, 1, 0), 0);
    }

    /** "no LAWS told": the first one is in force on each DAY. */
    private static void p1NoLawsTold() {
        FairRents x = new FairRents();
        int[] first = {0, 0, 0, 1, 0, 500, 20, NONE};
        C.is("1: LAWS", x.count(5), 0);
        for (int day = 0; day <= 400; day += 10) {
            for (int what = 0; what < first.length; what++) {
                C.is("1: force(" + day + ", " + what + ")", x.force(day, what), first[what]);
            }
        }
    }

    /** "no LIKES" */
    private static void p1NoLikes() {
        FairRents x = new FairRents();
        C.is("1: LIKES", x.count(1), 0);
        for (int l = 0; l < 12; l++) {
            C.is("1: strike", x.strike(l), BAD);
        }
        x.home(0, 0, 1, 0);
        C.is("1: none count", x.head(0, 300, 4), 0);
        C.is("1: the first LIKE's number", x.like(0, 0, 1), 0);
    }

    /** No entries either: "there is none at first" of lettings, so none was registered. */
    private static void p1NoEntries() {
        FairRents x = new FairRents();
        C.is("1: entries", x.count(2), 0);
        C.is("1: THE TRACE", x.trace(), 0);
        for (int e = 0; e < 20; e++) {
            C.is("1: entry", x.entry(e, 0), NO);
        }
        x.home(0, 0, 1, 0);
        C.is("1: latest", x.latest(0), NONE);
        C.is("1: not let", x.due(0, 0), STATE);
        x.let(0, 1);
        C.is("1: the first entry's number", x.ask(0), 0);
    }

    private static void p1NothingIsShared() {
        FairRents before = new FairRents();
        Story.tellFull(new FairRents());
        FairRents after = new FairRents();
        for (int what = 0; what <= 5; what++) {
            C.is("1: made before, count(" + what + ")", before.count(what), 0);
            C.is("1: made after, count(" + what + ")", after.count(what), 0);
        }
        C.is("1: made before, LAW", before.force(400, 7), NONE);
        C.is("1: made after, LAW", after.force(400, 7), NONE);
        C.is("1: made after, trace", after.trace(), 0);
    }

    /** "KINDS over one another: 0 PLAIN, 1 FLAT, 2 OLD" */
    private static void p2Kinds() {
        FairRents x = new FairRents();
        int[] points = {60, 52, 39};
        for (int kind = 0; kind <= 2; kind++) {
            C.is("2: KIND " + kind, x.home(kind, 0, 6, 4), kind);
            C.is("2: POINTS of KIND " + kind, x.points(kind), points[kind]);
        }
        for (int kind : Check.outside(0, 2)) {
            C.is("2: KIND " + kind, x.home(kind, 0, 6, 4), BAD);
        }
        C.is("2: three HOMES", x.count(0), 3);
    }

    /** "Each lies in an AREA 0 .. 2" */
    private static void p2Areas() {
        FairRents x = new FairRents();
        for (int area = 0; area <= 2; area++) {
            C.is("2: AREA " + area, x.home(0, area, 1, 0), area);
            x.like(area, 10, 100 + area);
        }
        for (int area = 0; area <= 2; area++) {
            C.is("2: LIKES of AREA " + area, x.head(area, 0, 4), 1);
            C.is("2: RENT of AREA " + area, x.head(area, 0, 0), 100 + area);
        }
        for (int area : Check.outside(0, 2)) {
            C.is("2: AREA " + area, x.home(0, area, 1, 0), BAD);
        }
        C.is("2: three HOMES", x.count(0), 3);
    }

    /** "ROOMS (1 .. 9)" */
    private static void p2Rooms() {
        FairRents x = new FairRents();
        for (int rooms = 2; rooms <= 9; rooms++) {
            C.is("2: ROOMS " + rooms, x.home(0, 0, rooms, 0), rooms - 2);
            C.is("2: POINTS of ROOMS " + rooms, x.points(rooms - 2), 10 * rooms);
        }
        FairRents y = new FairRents();
        for (int rooms : Check.outside(1, 9)) {
            C.is("2: ROOMS " + rooms, y.home(0, 0, rooms, 0), BAD);
        }
        C.is("2: none", y.count(0), 0);
        C.is("2: ROOMS 1", y.home(0, 0, 1, 0), 0);
        C.is("2: POINTS of ROOMS 1", y.points(0), 10);
    }

    /** "a FLOOR (0 .. 9)" */
    private static void p2Floors() {
        FairRents x = new FairRents();
        for (int floor = 0; floor <= 9; floor++) {
            FairRents each = new FairRents();
            C.is("2: FLOOR " + floor, each.home(1, 0, 5, floor), 0);
            C.is("2: POINTS on FLOOR " + floor, each.points(0), 50 - 2 * floor);
        }
        for (int floor : Check.outside(0, 9)) {
            for (int kind = 0; kind <= 2; kind++) {
                C.is("2: FLOOR " + floor + ", KIND " + kind, x.home(kind, 0, 5, floor), BAD);
            }
        }
        C.is("2: none", x.count(0), 0);
        C.is("2: a PLAIN one has a FLOOR too", x.home(0, 0, 5, 9), 0);
    }

    private static void p2RefusedNumbersChangeNothing() {
        for (Story s : new Story[] {Story.empty(C), Story.busy(C)}) {
            s.refuses("home(-1, 0, 1, 0)", BAD, x -> x.home(-1, 0, 1, 0));
            s.refuses("home(3, 0, 1, 0)", BAD, x -> x.home(3, 0, 1, 0));
            s.refuses("home(0, -1, 1, 0)", BAD, x -> x.home(0, -1, 1, 0));
            s.refuses("home(0, 3, 1, 0)", BAD, x -> x.home(0, 3, 1, 0));
            s.refuses("home(0, 0, 0, 0)", BAD, x -> x.home(0, 0, 0, 0));
            s.refuses("home(0, 0, 10, 0)", BAD, x -> x.home(0, 0, 10, 0));
            s.refuses("home(0, 0, 1, -1)", BAD, x -> x.home(0, 0, 1, -1));
            s.refuses("home(0, 0, 1, 10)", BAD, x -> x.home(0, 0, 1, 10));
        }
    }

    /** "HOMES (8 at most)": the eighth is taken, the ninth FULL. */
    private static void p2EightAtMost() {
        FairRents x = new FairRents();
        for (int h = 0; h < 8; h++) {
            C.is("2: the number of HOME " + h, x.home(1, h % 3, 9, h), h);
        }
        C.is("2: the ninth", x.home(0, 0, 1, 0), FULL);
        C.is("2: and again", x.home(2, 2, 9, 9), FULL);
        C.is("2: eight", x.count(0), 8);
        for (int h = 0; h < 8; h++) {
            C.is("2: HOME " + h + " is as it was", x.points(h), 90 - 2 * h);
        }
        C.is("2: there is no ninth", x.points(8), BAD);
        Story.full(C).refuses("a ninth home", FULL, y -> y.home(0, 0, 1, 0));
    }

    /** "Refused .. the first of these: BAD .., FULL." */
    private static void p2BadBeforeFull() {
        Story full = Story.full(C);
        full.refuses("home(3, 0, 1, 0)", BAD, x -> x.home(3, 0, 1, 0));
        full.refuses("home(0, 3, 1, 0)", BAD, x -> x.home(0, 3, 1, 0));
        full.refuses("home(0, 0, 0, 0)", BAD, x -> x.home(0, 0, 0, 0));
        full.refuses("home(0, 0, 1, 10)", BAD, x -> x.home(0, 0, 1, 10));
    }

    /** "FAULTS (repairs undone; 0 .. 9 ..)": what they were, for each. */
    private static void p3FaultsRange() {
        FairRents x = new FairRents();
        x.home(0, 0, 1, 0);
        x.law(1, 0, 0, 0, 1, 1, 1, 0);
        int were = 0;
        for (int n : new int[] {1, 9, 8, 0, 0, 9, 9, 1}) {
            C.is("3: to " + n, x.faults(0, n), were);
            C.is("3: they are " + n, x.head(0, 10, 2), -n);
            were = n;
        }
        for (int n : Check.outside(0, 9)) {
            C.is("3: " + n, x.faults(0, n), BAD);
            C.is("3: still 1 after " + n, x.head(0, 10, 2), -1);
        }
        C.is("3: as they were", x.faults(0, 0), 1);
    }

    /** "0 at first", for each of 8 HOMES. */
    private static void p3NoneAtFirst() {
        FairRents x = new FairRents();
        for (int h = 0; h < 8; h++) {
            x.home(h % 3, 0, 1, 0);
        }
        for (int h = 0; h < 8; h++) {
            C.is("3: HOME " + h, x.faults(h, h + 1), 0);
        }
        for (int h = 0; h < 8; h++) {
            C.is("3: its own, HOME " + h, x.faults(h, 0), h + 1);
        }
    }

    /** "BAD (.. there is no such thing)" */
    private static void p3NoSuchHome() {
        FairRents x = new FairRents();
        C.is("3: no HOME yet", x.faults(0, 1), BAD);
        x.home(0, 0, 1, 0);
        C.is("3: the last one there", x.faults(0, 1), 0);
        C.is("3: the first one not there", x.faults(1, 1), BAD);
        for (int h : Check.outside(0, 7)) {
            C.is("3: HOME " + h, x.faults(h, 1), BAD);
        }
    }

    /** "THE HEADS of days gone by go by what they are now" */
    private static void p3DaysGoneBy() {
        FairRents x = new FairRents();
        x.home(0, 0, 1, 0);
        x.law(1, 0, 0, 0, 1, 20, 1, 0);
        x.faults(0, 9);
        x.days(20);
        C.is("3: before", x.head(0, 10, 2), -180);
        x.faults(0, 0);
        C.is("3: a DAY gone by", x.head(0, 10, 2), 0);
        C.is("3: TODAY", x.head(0, 20, 2), 0);
        x.faults(0, 2);
        C.is("3: a DAY gone by, again", x.head(0, 10, 2), -40);
        C.is("3: a DAY to come", x.head(0, 300, 2), -40);
    }

    /** "entries stay as they are" */
    private static void p3EntriesStay() {
        FairRents x = new FairRents();
        x.home(0, 0, 5, 0);
        x.like(0, 50, 300);
        x.law(1, 0, 0, 0, 1, 20, 500, 0);
        x.days(10);
        x.let(0, 100);
        x.faults(0, 3);
        x.ask(0);
        x.faults(0, 0);
        C.is("3: HEAD 2 of the entry", x.entry(0, 5), -60);
        C.is("3: RENT of the entry", x.entry(0, 2), 240);
        C.is("3: DUE by the entry", x.due(0, 10), 240);
        C.is("3: HEAD 2 now", x.head(0, 10, 2), 0);
    }

    private static void p3RefusedChangesNothing() {
        Story.empty(C).refuses("faults(0, 1)", BAD, x -> x.faults(0, 1));
        Story busy = Story.busy(C);
        busy.refuses("faults(0, -1)", BAD, x -> x.faults(0, -1));
        busy.refuses("faults(0, 10)", BAD, x -> x.faults(0, 10));
        busy.refuses("faults(-1, 5)", BAD, x -> x.faults(-1, 5));
        busy.refuses("faults(4, 5)", BAD, x -> x.faults(4, 5));
        Story.full(C).refuses("faults(8, 5)", BAD, x -> x.faults(8, 5));
    }

    /** "10 for each of ROOMS", "less 2 for each FLOOR", for all there can be. */
    private static void p4EveryHome() {
        for (int rooms = 1; rooms <= 9; rooms++) {
            for (int floor = 0; floor <= 9; floor++) {
                FairRents x = new FairRents();
                x.home(0, 0, rooms, floor);
                x.home(1, 0, rooms, floor);
                x.home(2, 0, rooms, floor);
                int flat = 10 * rooms - 2 * floor;
                int old = flat - (int) Math.floor(flat / 4.0);
                C.is("4: PLAIN " + rooms + " " + floor, x.points(0), 10 * rooms);
                C.is("4: FLAT " + rooms + " " + floor, x.points(1), flat);
                C.is("4: OLD " + rooms + " " + floor, x.points(2), old);
            }
        }
    }

    private static int old(int rooms, int floor) {
        FairRents x = new FairRents();
        x.home(2, 0, rooms, floor);
        return x.points(0);
    }

    /** "OLD: up, less a quarter, rounded down" */
    private static void p4QuarterRoundedDown() {
        C.is("4: of 90", old(9, 0), 68);
        C.is("4: of 10", old(1, 0), 8);
        C.is("4: of 8", old(1, 1), 6);
        C.is("4: of 6", old(1, 2), 5);
        C.is("4: of 4", old(1, 3), 3);
        C.is("4: of 2", old(1, 4), 2);
        C.is("4: of 0", old(1, 5), 0);
    }

    /** The same below 0, where down is away from 0. */
    private static void p4QuarterRoundedDownBelow0() {
        C.is("4: of -2", old(1, 6), -1);
        C.is("4: of -4", old(1, 7), -3);
        C.is("4: of -6", old(1, 8), -4);
        C.is("4: of -8", old(1, 9), -6);
    }

    /** "BAD", and nothing comes to THE TRACE. */
    private static void p4NoSuchHome() {
        Story.empty(C).refuses("points(0)", BAD, x -> x.points(0));
        Story busy = Story.busy(C);
        busy.refuses("points(4)", BAD, x -> x.points(4));
        busy.refuses("points(-1)", BAD, x -> x.points(-1));
        Story.full(C).refuses("points(8)", BAD, x -> x.points(8));
        FairRents x = new FairRents();
        x.home(0, 0, 1, 0);
        for (int h : Check.outside(0, 7)) {
            C.is("4: HOME " + h, x.points(h), BAD);
        }
        C.is("4: the last one there", x.points(0), 10);
        C.is("4: the first one not there", x.points(1), BAD);
    }
}
