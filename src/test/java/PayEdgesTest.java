/** The edges of promises 18 and 19: what is PAID and OWED. */
public final class PayEdgesTest {
    private static final Check C = new Check();
    private static final int BAD = FairRents.BAD, STATE = FairRents.STATE, FULL = FairRents.FULL;
    private static final int NO = FairRents.NO;

    public static void main(String[] args) {
        p18Sums();
        p18OnTheFirstAndTheLastDay();
        p18InAllOfThisLetting();
        p18NotLet();
        p18Above1000000();
        p18NoSuchHome();
        p18OrderOfRefusals();
        p18RefusedChangesNothing();
        p19FromTheFirstDayUpToThatOne();
        p19LessWhatWasPaidByThen();
        p19MayBeBelow0();
        p19TheFarthest();
        p19DaysAsDue();
        p19NotLet();
        p19NotByThen();
        p19NoSuchHome();
        p19WithEntries();
        p19AfterAnAppeal();
        p19OfThisLetting();
        p19RefusedChangesNothing();
        C.end();
    }

    private static FairRents let(int rent) {
        FairRents x = new FairRents();
        x.home(0, 0, 5, 0);
        x.let(0, rent);
        return x;
    }

    /** "sums of a letting (0 .. 100000 each)" */
    private static void p18Sums() {
        for (int sum : new int[] {0, 1, 99999, 100000}) {
            FairRents x = let(100);
            C.is("18: sum " + sum, x.pay(0, sum), sum);
            C.is("18: OWED after " + sum, x.owed(0, 0), 100 - sum);
        }
        FairRents x = let(100);
        x.pay(0, 5);
        for (int sum : Check.outside(0, 100000)) {
            C.is("18: sum " + sum, x.pay(0, sum), BAD);
        }
        C.is("18: in all", x.pay(0, 0), 5);
    }

    /** "So much is PAID TODAY": on DAY 0, 1, 299 and 300. */
    private static void p18OnTheFirstAndTheLastDay() {
        FairRents x = let(100);
        C.is("18: DAY 0", x.pay(0, 1), 1);
        x.days(1);
        C.is("18: DAY 1", x.pay(0, 2), 3);
        x.days(28);
        for (int i = 0; i < 9; i++) {
            x.days(30);
        }
        C.is("18: DAY 299", x.pay(0, 4), 7);
        x.days(1);
        C.is("18: DAY 300", x.pay(0, 8), 15);
        C.is("18: OWED on DAY 0", x.owed(0, 0), 100 - 1);
        C.is("18: OWED on DAY 1", x.owed(0, 1), 200 - 3);
        C.is("18: OWED on DAY 298", x.owed(0, 298), 29900 - 3);
        C.is("18: OWED on DAY 299", x.owed(0, 299), 30000 - 7);
        C.is("18: OWED on DAY 300", x.owed(0, 300), 30100 - 15);
    }

    /** "what was PAID in all of this letting" */
    private static void p18InAllOfThisLetting() {
        FairRents x = let(100);
        C.is("18: the first", x.pay(0, 10), 10);
        C.is("18: the same DAY", x.pay(0, 20), 30);
        x.days(30);
        C.is("18: later", x.pay(0, 5), 35);
        x.home(0, 0, 5, 0);
        x.let(1, 100);
        C.is("18: of another HOME", x.pay(1, 1), 1);
        x.let(0, 100);
        C.is("18: of a new letting", x.pay(0, 0), 0);
        C.is("18: of a new letting", x.pay(0, 3), 3);
        C.is("18: of another HOME still", x.pay(1, 0), 1);
    }

    /** "STATE: it is not let" */
    private static void p18NotLet() {
        FairRents x = new FairRents();
        x.home(0, 0, 5, 0);
        C.is("18: 0", x.pay(0, 0), STATE);
        C.is("18: 100000", x.pay(0, 100000), STATE);
        x.let(0, 100);
        C.is("18: let", x.pay(0, 0), 0);
    }

    /** A letting of which so much is PAID: 900000 at least. */
    private static FairRents paid(int inAll) {
        FairRents x = let(100);
        for (int i = 0; i < 9; i++) {
            x.pay(0, 100000);
        }
        x.pay(0, inAll - 900000);
        return x;
    }

    /** "FULL: above 1000000": 1000000 itself is not. */
    private static void p18Above1000000() {
        C.is("18: 900000 and 100000", paid(900000).pay(0, 100000), 1000000);
        C.is("18: 900001 and 100000", paid(900001).pay(0, 100000), FULL);
        C.is("18: 999999 and 1", paid(999999).pay(0, 1), 1000000);
        C.is("18: 999999 and 2", paid(999999).pay(0, 2), FULL);
        C.is("18: 1000000 and 0", paid(1000000).pay(0, 0), 1000000);
        C.is("18: 1000000 and 1", paid(1000000).pay(0, 1), FULL);
        C.is("18: 1000000 and 100000", paid(1000000).pay(0, 100000), FULL);
        FairRents x = paid(999990);
        C.is("18: 11", x.pay(0, 11), FULL);
        C.is("18: nothing of it is PAID", x.pay(0, 0), 999990);
        C.is("18: nor less OWED", x.owed(0, 0), 100 - 999990);
        C.is("18: 10", x.pay(0, 10), 1000000);
        x.let(0, 100);
        C.is("18: a new letting", x.pay(0, 100000), 100000);
    }

    private static void p18NoSuchHome() {
        FairRents x = new FairRents();
        C.is("18: none yet", x.pay(0, 0), BAD);
        x = let(100);
        C.is("18: the first one not there", x.pay(1, 1), BAD);
        for (int h : Check.outside(0, 7)) {
            C.is("18: HOME " + h, x.pay(h, 1), BAD);
        }
        C.is("18: the last one there", x.pay(0, 1), 1);
    }

    /** "Refused .. the first of these: BAD .., STATE .., FULL." */
    private static void p18OrderOfRefusals() {
        FairRents x = new FairRents();
        x.home(0, 0, 5, 0);
        C.is("18: not let, 100001", x.pay(0, 100001), BAD);
        C.is("18: not let, -1", x.pay(0, -1), BAD);
        C.is("18: not let, 1", x.pay(0, 1), STATE);
        FairRents y = paid(1000000);
        C.is("18: FULL, 100001", y.pay(0, 100001), BAD);
        C.is("18: FULL, -1", y.pay(0, -1), BAD);
        C.is("18: FULL, no such HOME", y.pay(1, 1), BAD);
        C.is("18: FULL, 1", y.pay(0, 1), FULL);
    }

    private static void p18RefusedChangesNothing() {
        Story.empty(C).refuses("pay(0, 1)", BAD, x -> x.pay(0, 1));
        Story busy = Story.busy(C);
        busy.refuses("pay(0, -1)", BAD, x -> x.pay(0, -1));
        busy.refuses("pay(0, 100001)", BAD, x -> x.pay(0, 100001));
        busy.refuses("pay(-1, 1)", BAD, x -> x.pay(-1, 1));
        busy.refuses("pay(4, 1)", BAD, x -> x.pay(4, 1));
        busy.refuses("pay(3, 1), not let", STATE, x -> x.pay(3, 1));
        Story full = Story.full(C);
        full.refuses("pay(0, 1)", FULL, x -> x.pay(0, 1));
        full.refuses("pay(0, 100000)", FULL, x -> x.pay(0, 100000));
        full.refuses("pay(8, 1)", BAD, x -> x.pay(8, 1));
    }

    /** "DUE of all its DAYS from its first up to that one" */
    private static void p19FromTheFirstDayUpToThatOne() {
        FairRents x = new FairRents();
        x.home(0, 0, 5, 0);
        x.days(8);
        x.let(0, 100);
        C.is("19: its first DAY", x.owed(0, 8), 100);
        x.days(3);
        for (int day = 8; day <= 11; day++) {
            C.is("19: DAY " + day, x.owed(0, day), 100 * (day - 7));
        }
    }

    /** "less what was PAID by then": on that DAY too, not the DAY after. */
    private static void p19LessWhatWasPaidByThen() {
        FairRents x = let(100);
        x.pay(0, 30);
        x.days(2);
        x.pay(0, 50);
        x.pay(0, 5);
        x.days(2);
        int[] due = {70, 170, 215, 315, 415};
        for (int day = 0; day < due.length; day++) {
            C.is("19: DAY " + day, x.owed(0, day), due[day]);
        }
        x.pay(0, 1000);
        C.is("19: the DAY before", x.owed(0, 3), 315);
        C.is("19: that DAY", x.owed(0, 4), -585);
    }

    /** "(May be below 0.)": and 0, and -1, which is no refusal. */
    private static void p19MayBeBelow0() {
        int[] sums = {99, 100, 101, 102, 103, 109, 100000};
        for (int sum : sums) {
            FairRents x = let(100);
            x.pay(0, sum);
            C.is("19: " + sum + " of 100", x.owed(0, 0), 100 - sum);
        }
    }

    /** The most and the least that can be OWED. */
    private static void p19TheFarthest() {
        FairRents x = new FairRents();
        x.home(0, 0, 9, 0);
        x.like(0, 0, 5000);
        x.let(0, 5000);
        x.ask(0);
        for (int i = 0; i < 10; i++) {
            x.days(30);
        }
        C.is("19: 301 DAYS of 5090", x.owed(0, 300), 301 * 5090);
        FairRents y = paid(1000000);
        y.let(0, 1);
        for (int i = 0; i < 10; i++) {
            y.pay(0, 100000);
        }
        C.is("19: 1 less 1000000", y.owed(0, 0), -999999);
    }

    /** "OWED on a DAY, as due()": from the letting's first one up to TODAY */
    private static void p19DaysAsDue() {
        FairRents x = new FairRents();
        x.home(0, 0, 5, 0);
        x.days(8);
        x.let(0, 100);
        C.is("19: the DAY before the first", x.owed(0, 7), NO);
        C.is("19: the first is TODAY", x.owed(0, 8), 100);
        C.is("19: the DAY after", x.owed(0, 9), NO);
        x.days(1);
        C.is("19: then TODAY", x.owed(0, 9), 200);
        for (int day : Check.outside(0, 9)) {
            C.is("19: DAY " + day, x.owed(0, day), NO);
        }
        FairRents y = let(1);
        C.is("19: DAY -1", y.owed(0, -1), NO);
        C.is("19: DAY 0", y.owed(0, 0), 1);
        for (int i = 0; i < 10; i++) {
            y.days(30);
        }
        C.is("19: DAY 300", y.owed(0, 300), 301);
        C.is("19: DAY 301", y.owed(0, 301), NO);
    }

    /** "NO: BAD, STATE." */
    private static void p19NotLet() {
        FairRents x = new FairRents();
        x.home(0, 0, 5, 0);
        x.home(0, 0, 5, 0);
        x.let(1, 100);
        x.days(2);
        for (int day = -1; day <= 3; day++) {
            C.is("19: not let, DAY " + day, x.owed(0, day), NO);
        }
        C.is("19: let", x.owed(1, 2), 300);
    }

    private static void p19NotByThen() {
        FairRents x = let(100);
        x.days(5);
        x.let(0, 110);
        C.is("19: the one before's first DAY", x.owed(0, 0), NO);
        C.is("19: the one before's last DAY", x.owed(0, 4), NO);
        C.is("19: its first DAY", x.owed(0, 5), 110);
    }

    private static void p19NoSuchHome() {
        FairRents x = let(100);
        C.is("19: the first one not there", x.owed(1, 0), NO);
        for (int h : Check.outside(0, 7)) {
            C.is("19: HOME " + h, x.owed(h, 0), NO);
        }
        C.is("19: the last one there", x.owed(0, 0), 100);
    }

    /** OWED is the sum of what due() says, DAY by DAY. */
    private static void p19WithEntries() {
        FairRents x = new FairRents();
        x.home(0, 0, 5, 0);
        x.like(0, 50, 400);
        x.law(1, 0, 0, 0, 1, 0, 30, 3);
        x.days(8);
        x.let(0, 100);
        x.days(6);
        x.ask(0);
        x.days(13);
        x.ask(0);
        x.days(25);
        x.strike(0);
        x.like(0, 50, 20);
        x.ask(0);
        x.days(10);
        int sum = 0;
        for (int day = 8; day <= 62; day++) {
            sum += x.due(0, day);
            C.is("19: DAY " + day, x.owed(0, day), sum);
        }
        C.is("19: 6 at 100, 10 at 130, 3 at 160, 10 at 190, 10 at 220, 5 at 250, 11 at 20",
                sum, 600 + 1300 + 480 + 1900 + 2200 + 1250 + 220);
    }

    private static void p19AfterAnAppeal() {
        FairRents x = let(100);
        x.like(0, 50, 300);
        x.days(1);
        x.ask(0);
        x.days(5);
        C.is("19: before", x.owed(0, 6), 100 + 6 * 300);
        x.appeal(0);
        C.is("19: unwound from its DAY on", x.owed(0, 6), 700);
        C.is("19: on its DAY", x.owed(0, 1), 200);
    }

    private static void p19OfThisLetting() {
        FairRents x = let(100);
        x.like(0, 50, 300);
        x.ask(0);
        x.pay(0, 77);
        x.let(0, 40);
        C.is("19: let again the same DAY", x.owed(0, 0), 40);
        x.pay(0, 1);
        x.days(3);
        x.let(0, 50);
        C.is("19: and later", x.owed(0, 3), 50);
        x.days(1);
        C.is("19: a DAY on", x.owed(0, 4), 100);
    }

    private static void p19RefusedChangesNothing() {
        Story.empty(C).refuses("owed(0, 0)", NO, x -> x.owed(0, 0));
        Story busy = Story.busy(C);
        busy.refuses("owed(0, -1)", NO, x -> x.owed(0, -1));
        busy.refuses("owed(0, 28)", NO, x -> x.owed(0, 28));
        busy.refuses("owed(-1, 0)", NO, x -> x.owed(-1, 0));
        busy.refuses("owed(4, 0)", NO, x -> x.owed(4, 0));
        busy.refuses("owed(3, 27), not let", NO, x -> x.owed(3, 27));
        busy.refuses("owed(2, 21), not by then", NO, x -> x.owed(2, 21));
        Story.full(C).refuses("owed(8, 0)", NO, x -> x.owed(8, 0));
    }
}
