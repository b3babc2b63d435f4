/** The edges of promise 10: THE HEADS of a HOME on a DAY. */
public final class HeadEdgesTest {
    private static final Check C = new Check();
    private static final int NO = FairRents.NO;

    public static void main(String[] args) {
        countOfItsAreaAlone();
        countFromTheirDayOn();
        putRightByPoints();
        putRightByWeight();
        putRightFarthest();
        middleOfNone();
        middleOfOddNumbers();
        middleOfEvenNumbers();
        middleInAnyOrder();
        middleOfEqualOnes();
        middleOfThosePutRight();
        scarcityRoundedDown();
        scarcityLeastAndMost();
        scarcityOfItsArea();
        scarcityBelow0();
        lessForEachFault();
        rentIsOneAtLeast();
        byTheLawOfThatDay();
        days();
        whats();
        noSuchHome();
        refusedChangesNothing();
        C.end();
    }

    /** A HOME of 50 POINTS in AREA 0, HOME 0 of a new object. */
    private static FairRents fifty() {
        FairRents x = new FairRents();
        x.home(0, 0, 5, 0);
        return x;
    }

    /** "LIKES that count are those of its AREA" */
    private static void countOfItsAreaAlone() {
        FairRents x = new FairRents();
        x.home(0, 0, 5, 0);
        x.home(0, 1, 5, 0);
        x.home(0, 2, 5, 0);
        x.like(1, 50, 100);
        int[] counts = {0, 1, 0};
        for (int h = 0; h < 3; h++) {
            C.is("10: one of AREA 1, counts for HOME " + h, x.head(h, 0, 4), counts[h]);
            C.is("10: HEAD 0 of HOME " + h, x.head(h, 0, 0), 100 * counts[h]);
        }
        x.like(2, 50, 200);
        x.like(2, 50, 300);
        C.is("10: none of AREA 0", x.head(0, 0, 4), 0);
        C.is("10: one of AREA 1", x.head(1, 0, 4), 1);
        C.is("10: two of AREA 2", x.head(2, 0, 4), 2);
    }

    /** "told from that DAY or ahead of it" */
    private static void countFromTheirDayOn() {
        FairRents x = fifty();
        x.like(0, 50, 300);
        x.days(10);
        x.like(0, 50, 100);
        C.is("10: the DAY before", x.head(0, 9, 4), 1);
        C.is("10: that DAY", x.head(0, 10, 4), 2);
        C.is("10: the DAY after", x.head(0, 11, 4), 2);
        C.is("10: HEAD 0 the DAY before", x.head(0, 9, 0), 300);
        C.is("10: HEAD 0 that DAY", x.head(0, 10, 0), 100);
        C.is("10: on DAY 0", x.head(0, 0, 4), 1);
    }

    /** "its RENT and WEIGHT for each by which THE HOME's POINTS are more than its own (less, if fewer)" */
    private static void putRightByPoints() {
        int[] points = {49, 50, 51, 0, 200};
        int[] due = {1001, 1000, 999, 1050, 850};
        for (int i = 0; i < points.length; i++) {
            FairRents x = fifty();
            x.like(0, points[i], 1000);
            C.is("10: from POINTS " + points[i], x.head(0, 0, 0), due[i]);
        }
    }

    private static void putRightByWeight() {
        for (int weight = 1; weight <= 9; weight++) {
            FairRents x = fifty();
            x.law(1, 0, 0, 0, weight, 0, 1, 0);
            x.like(0, 47, 1000);
            C.is("10: 3 more, WEIGHT " + weight, x.head(0, 10, 0), 1000 + 3 * weight);
            x.strike(0);
            x.like(0, 54, 1000);
            C.is("10: 4 fewer, WEIGHT " + weight, x.head(0, 10, 0), 1000 - 4 * weight);
        }
    }

    private static void putRightFarthest() {
        FairRents x = new FairRents();
        x.home(0, 0, 9, 9);
        x.home(1, 1, 1, 9);
        x.law(1, 0, 0, 0, 9, 0, 1, 0);
        x.like(0, 0, 5000);
        x.like(1, 200, 1);
        C.is("10: the highest", x.head(0, 10, 0), 5810);
        C.is("10: its RENT", x.head(0, 10, 3), 5810);
        C.is("10: the lowest", x.head(1, 10, 0), 1 - 9 * 208);
        C.is("10: its RENT", x.head(1, 10, 3), 1);
    }

    /** "0, if there are none" */
    private static void middleOfNone() {
        FairRents x = fifty();
        int[] due = {0, 0, 0, 1, 0};
        for (int what = 0; what < due.length; what++) {
            C.is("10: of none, " + what, x.head(0, 0, what), due[what]);
        }
        x.like(0, 50, 100);
        x.strike(0);
        for (int what = 0; what < due.length; what++) {
            C.is("10: of none but a struck one, " + what, x.head(0, 0, what), due[what]);
        }
    }

    /** HEAD 0 of so many LIKES with RENTS 10, 20, .., told from the highest or the lowest on. */
    private static int middleOf(int many, boolean risingly) {
        FairRents x = fifty();
        for (int i = 1; i <= many; i++) {
            x.like(0, 50, 10 * (risingly ? i : many + 1 - i));
        }
        C.is("10: so many count", x.head(0, 0, 4), many);
        return x.head(0, 0, 0);
    }

    /** "the middle one of these in order" */
    private static void middleOfOddNumbers() {
        for (int many = 1; many <= 11; many += 2) {
            C.is("10: middle of " + many, middleOf(many, true), 10 * (many + 1) / 2);
            C.is("10: middle of " + many + ", falling", middleOf(many, false), 10 * (many + 1) / 2);
        }
    }

    /** "of an even number the lower one of both" */
    private static void middleOfEvenNumbers() {
        for (int many = 2; many <= 12; many += 2) {
            C.is("10: middle of " + many, middleOf(many, true), 10 * many / 2);
            C.is("10: middle of " + many + ", falling", middleOf(many, false), 10 * many / 2);
        }
    }

    private static void middleInAnyOrder() {
        int[][] orders = {{1, 2, 3}, {1, 3, 2}, {2, 1, 3}, {2, 3, 1}, {3, 1, 2}, {3, 2, 1}};
        for (int[] order : orders) {
            FairRents x = fifty();
            for (int rent : order) {
                x.like(0, 50, rent);
            }
            C.is("10: " + order[0] + " " + order[1] + " " + order[2], x.head(0, 0, 0), 2);
        }
    }

    private static void middleOfEqualOnes() {
        FairRents x = fifty();
        int[] rents = {7, 7, 9, 9, 7, 9, 9};
        int[] due = {7, 7, 7, 7, 7, 7, 9};
        for (int i = 0; i < rents.length; i++) {
            x.like(0, 50, rents[i]);
            C.is("10: " + (i + 1) + " with equal ones", x.head(0, 0, 0), due[i]);
        }
    }

    /** In order are those put right, not the RENTS as they were told; some are below 0. */
    private static void middleOfThosePutRight() {
        FairRents x = fifty();
        x.like(0, 200, 100);
        x.like(0, 50, 20);
        x.like(0, 0, 1);
        C.is("10: of -50, 20 and 51", x.head(0, 0, 0), 20);
        x.law(1, 0, 0, 0, 9, 0, 1, 0);
        C.is("10: of -1250, 20 and 451", x.head(0, 10, 0), 20);
        x.like(0, 200, 90);
        C.is("10: of -60, -50, 20 and 51", x.head(0, 0, 0), -50);
    }

    /** HEAD 1 of a HEAD 0 under a SCARCITY. */
    private static int off(int headZero, int scarcity) {
        FairRents x = fifty();
        x.law(1, scarcity, 0, 0, 1, 0, 1, 0);
        x.like(0, headZero < 1 ? 51 - headZero : 50, headZero < 1 ? 1 : headZero);
        C.is("10: HEAD 0", x.head(0, 10, 0), headZero);
        C.is("10: all together", x.head(0, 10, 3), Math.max(1, headZero + x.head(0, 10, 1)));
        return x.head(0, 10, 1);
    }

    /** "- SCARCITY of HEAD 0 by 100, rounded down (what is taken off ..)" */
    private static void scarcityRoundedDown() {
        C.is("10: 1 of 99", off(99, 1), 0);
        C.is("10: 1 of 100", off(100, 1), -1);
        C.is("10: 1 of 101", off(101, 1), -1);
        C.is("10: 1 of 199", off(199, 1), -1);
        C.is("10: 1 of 200", off(200, 1), -2);
        C.is("10: 33 of 3", off(3, 33), 0);
        C.is("10: 34 of 3", off(3, 34), -1);
        C.is("10: 89 of 37", off(37, 89), -32);
    }

    private static void scarcityLeastAndMost() {
        C.is("10: 0 of 5000", off(5000, 0), 0);
        C.is("10: 90 of 5000", off(5000, 90), -4500);
        C.is("10: 90 of 1", off(1, 90), 0);
        C.is("10: 90 of 2", off(2, 90), -1);
        C.is("10: 90 of 10", off(10, 90), -9);
    }

    private static void scarcityOfItsArea() {
        FairRents x = new FairRents();
        x.law(1, 90, 45, 1, 1, 0, 1, 0);
        int[] due = {-90, -45, -1};
        for (int area = 0; area <= 2; area++) {
            x.home(0, area, 5, 0);
            x.like(area, 50, 100);
            C.is("10: AREA " + area, x.head(area, 10, 1), due[area]);
        }
    }

    /** "0, if HEAD 0 is below 0" */
    private static void scarcityBelow0() {
        C.is("10: of 0", off(0, 90), 0);
        C.is("10: of -1", off(-1, 90), 0);
        C.is("10: of -2", off(-2, 90), 0);
        C.is("10: of -100", off(-100, 90), 0);
        C.is("10: of -149", off(-149, 50), 0);
    }

    /** "HEAD 2: - LESS for each FAULT." */
    private static void lessForEachFault() {
        int[] less = {0, 1, 19, 20};
        int[] faults = {0, 1, 8, 9};
        for (int l : less) {
            for (int f : faults) {
                FairRents x = fifty();
                x.law(1, 0, 0, 0, 1, l, 1, 0);
                x.like(0, 50, 1000);
                x.faults(0, f);
                C.is("10: LESS " + l + ", FAULTS " + f, x.head(0, 10, 2), -l * f);
                C.is("10: THE RENT then", x.head(0, 10, 3), 1000 - l * f);
                C.is("10: the first LAW", x.head(0, 9, 2), 0);
            }
        }
    }

    /** "THE RENT: the three HEADS together, 1 at least." */
    private static void rentIsOneAtLeast() {
        int[] rents = {12, 11, 10, 9, 1};
        int[] due = {2, 1, 1, 1, 1};
        for (int i = 0; i < rents.length; i++) {
            FairRents x = fifty();
            x.law(1, 0, 0, 0, 1, 10, 1, 0);
            x.like(0, 50, rents[i]);
            x.faults(0, 1);
            C.is("10: " + rents[i] + " less 10", x.head(0, 10, 3), due[i]);
        }
        FairRents x = fifty();
        x.law(1, 50, 0, 0, 1, 10, 1, 0);
        x.like(0, 50, 24);
        x.faults(0, 1);
        C.is("10: all three HEADS", x.head(0, 10, 3), 2);
    }

    /** "by the LAW of that DAY", gone by or to come */
    private static void byTheLawOfThatDay() {
        FairRents x = fifty();
        x.law(1, 10, 0, 0, 2, 3, 1, 0);
        x.law(2, 20, 0, 0, 5, 7, 1, 0);
        x.like(0, 40, 100);
        x.faults(0, 1);
        int[] dayOf = {0, 9, 10, 19, 20, 300};
        int[][] due = {{110, 0, 0, 110}, {110, 0, 0, 110}, {120, -12, -3, 105}, {120, -12, -3, 105},
            {150, -30, -7, 113}, {150, -30, -7, 113}};
        for (int today = 0; today <= 30; today += 15) {
            for (int i = 0; i < dayOf.length; i++) {
                for (int what = 0; what < 4; what++) {
                    C.is("10: TODAY " + today + ", head(0, " + dayOf[i] + ", " + what + ")",
                            x.head(0, dayOf[i], what), due[i][what]);
                }
            }
            x.days(15);
        }
    }

    /** "on a DAY (0 .. 300)" */
    private static void days() {
        FairRents x = fifty();
        x.like(0, 50, 100);
        for (int day : new int[] {0, 1, 299, 300}) {
            C.is("10: DAY " + day, x.head(0, day, 0), 100);
        }
        for (int day : Check.outside(0, 300)) {
            for (int what = 0; what <= 4; what++) {
                C.is("10: DAY " + day + ", " + what, x.head(0, day, what), NO);
            }
        }
    }

    /** "HEAD 0 .. 2 (what), THE RENT (3), how many LIKES count (4)" */
    private static void whats() {
        FairRents x = fifty();
        x.law(1, 25, 0, 0, 1, 6, 1, 0);
        x.like(0, 50, 100);
        x.like(0, 50, 200);
        x.faults(0, 2);
        int[] due = {100, -25, -12, 63, 2};
        for (int what = 0; what < due.length; what++) {
            C.is("10: what " + what, x.head(0, 10, what), due[what]);
        }
        for (int what : Check.outside(0, 4)) {
            C.is("10: what " + what, x.head(0, 10, what), NO);
        }
    }

    private static void noSuchHome() {
        FairRents x = fifty();
        C.is("10: the last one there", x.head(0, 0, 3), 1);
        C.is("10: the first one not there", x.head(1, 0, 3), NO);
        for (int h : Check.outside(0, 7)) {
            C.is("10: HOME " + h, x.head(h, 0, 3), NO);
        }
    }

    /** "NO: BAD." */
    private static void refusedChangesNothing() {
        Story.empty(C).refuses("head(0, 0, 0)", NO, x -> x.head(0, 0, 0));
        Story busy = Story.busy(C);
        busy.refuses("head(4, 0, 0)", NO, x -> x.head(4, 0, 0));
        busy.refuses("head(-1, 0, 0)", NO, x -> x.head(-1, 0, 0));
        busy.refuses("head(0, -1, 0)", NO, x -> x.head(0, -1, 0));
        busy.refuses("head(0, 301, 0)", NO, x -> x.head(0, 301, 0));
        busy.refuses("head(0, 0, -1)", NO, x -> x.head(0, 0, -1));
        busy.refuses("head(0, 0, 5)", NO, x -> x.head(0, 0, 5));
        Story.full(C).refuses("head(8, 0, 0)", NO, x -> x.head(8, 0, 0));
    }
}
