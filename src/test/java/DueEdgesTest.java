/** The edges of promise 17: what is DUE of a HOME on a DAY. */
public final class DueEdgesTest {
    private static final Check C = new Check();
    private static final int BAD = FairRents.BAD, STATE = FairRents.STATE;

    public static void main(String[] args) {
        fromTheFirstDayUpToToday();
        onDay0AndDay300();
        notLet();
        notByThen();
        noSuchHome();
        badBeforeState();
        beforeAnyEntry();
        rentIsWhatWasDueOrLess();
        rentIsMore();
        yearsBegun();
        yearsAreTheEntrysOwn();
        rentAtMost();
        leastAndMostStep();
        stepOfTheEntrysLaw();
        onTheLettingsFirstDay();
        fromTheDayBefore();
        severalOnOneDay();
        risesAndFalls();
        unwound();
        ofThisLetting();
        ofThisHome();
        refusedChangesNothing();
        C.end();
    }

    /** HOME 0 of 50 POINTS with THE RENT rent; a LAW with this STEP and BAR 0; TODAY is 10. */
    private static FairRents home(int rent, int step) {
        FairRents x = new FairRents();
        x.home(0, 0, 5, 0);
        x.like(0, 50, rent);
        x.law(1, 0, 0, 0, 1, 0, step, 0);
        x.days(10);
        return x;
    }

    /** THE RENT is another one from now on: the LIKE of this number is struck, a new one told. */
    private static void change(FairRents x, int like, int rent) {
        x.strike(like);
        x.like(0, 50, rent);
    }

    /** "on a DAY, from its letting's first one up to TODAY" */
    private static void fromTheFirstDayUpToToday() {
        FairRents x = home(200, 15);
        x.let(0, 100);
        C.is("17: the first DAY is TODAY", x.due(0, 10), 100);
        C.is("17: the DAY before", x.due(0, 9), STATE);
        C.is("17: the DAY after", x.due(0, 11), BAD);
        x.days(30);
        C.is("17: the first DAY", x.due(0, 10), 100);
        C.is("17: the DAY before", x.due(0, 9), STATE);
        C.is("17: TODAY", x.due(0, 40), 100);
        C.is("17: the DAY after TODAY", x.due(0, 41), BAD);
        for (int day : Check.outside(0, 40)) {
            C.is("17: DAY " + day, x.due(0, day), BAD);
        }
    }

    private static void onDay0AndDay300() {
        FairRents x = new FairRents();
        x.home(0, 0, 5, 0);
        x.let(0, 100);
        C.is("17: DAY 0", x.due(0, 0), 100);
        C.is("17: DAY -1", x.due(0, -1), BAD);
        for (int i = 0; i < 10; i++) {
            x.days(30);
        }
        C.is("17: DAY 300", x.due(0, 300), 100);
        C.is("17: DAY 301", x.due(0, 301), BAD);
        C.is("17: DAY 0 then", x.due(0, 0), 100);
        x.let(0, 7);
        C.is("17: let on DAY 300", x.due(0, 300), 7);
        C.is("17: DAY 299 then", x.due(0, 299), STATE);
    }

    /** "STATE: it is not let" */
    private static void notLet() {
        FairRents x = home(200, 15);
        for (int day = 0; day <= 10; day++) {
            C.is("17: not let, DAY " + day, x.due(0, day), STATE);
        }
        x.home(0, 0, 5, 0);
        x.let(1, 100);
        C.is("17: another is", x.due(0, 10), STATE);
        C.is("17: that one", x.due(1, 10), 100);
    }

    /** "STATE: .. or not by then": not of a letting gone by either. */
    private static void notByThen() {
        FairRents x = home(200, 15);
        x.let(0, 100);
        x.days(5);
        x.let(0, 110);
        C.is("17: ahead of both", x.due(0, 9), STATE);
        C.is("17: the first one's first DAY", x.due(0, 10), STATE);
        C.is("17: the first one's last DAY", x.due(0, 14), STATE);
        C.is("17: the second one's first DAY", x.due(0, 15), 110);
    }

    private static void noSuchHome() {
        FairRents x = home(200, 15);
        x.let(0, 100);
        C.is("17: the first one not there", x.due(1, 10), BAD);
        for (int h : Check.outside(0, 7)) {
            C.is("17: HOME " + h, x.due(h, 10), BAD);
        }
        C.is("17: the last one there", x.due(0, 10), 100);
    }

    /** "Refused .. the first of these: BAD .., STATE" */
    private static void badBeforeState() {
        FairRents x = home(200, 15);
        C.is("17: not let, TODAY", x.due(0, 10), STATE);
        C.is("17: not let, the DAY after", x.due(0, 11), BAD);
        C.is("17: not let, DAY -1", x.due(0, -1), BAD);
        C.is("17: not let, no such HOME", x.due(1, 10), BAD);
        x.let(0, 100);
        C.is("17: let, DAY 0", x.due(0, 0), STATE);
        C.is("17: let, DAY -1", x.due(0, -1), BAD);
    }

    /** "before any entry that stands, of this letting, came: the rent of the letting" */
    private static void beforeAnyEntry() {
        FairRents x = home(200, 500);
        x.let(0, 100);
        x.days(10);
        C.is("17: none", x.due(0, 20), 100);
        x.ask(0);
        C.is("17: the first DAY", x.due(0, 10), 100);
        C.is("17: the DAY before it", x.due(0, 19), 100);
        C.is("17: its DAY", x.due(0, 20), 200);
    }

    /** "R, if R is O or less" */
    private static void rentIsWhatWasDueOrLess() {
        for (int o : new int[] {200, 201, 202, 5000}) {
            FairRents x = home(200, 1);
            x.let(0, o);
            x.days(1);
            x.ask(0);
            x.days(30);
            C.is("17: O " + o + ", the DAY before", x.due(0, 10), o);
            C.is("17: O " + o + ", its DAY", x.due(0, 11), 200);
            C.is("17: O " + o + ", later", x.due(0, 41), 200);
        }
    }

    /** "else O and STEP": more by 1, by a STEP less 1, a STEP, a STEP and 1. */
    private static void rentIsMore() {
        int[] o = {199, 196, 195, 194};
        int[] due = {200, 200, 200, 199};
        for (int i = 0; i < o.length; i++) {
            FairRents x = home(200, 5);
            x.let(0, o[i]);
            x.days(1);
            x.ask(0);
            C.is("17: O " + o[i] + ", the DAY before", x.due(0, 10), o[i]);
            C.is("17: O " + o[i] + ", its DAY", x.due(0, 11), due[i]);
        }
    }

    /** "for each YEAR (10 DAYS) begun since its DAY (1 on its first)" */
    private static void yearsBegun() {
        FairRents x = home(1000, 7);
        x.let(0, 100);
        x.ask(0);
        for (int i = 0; i < 3; i++) {
            x.days(30);
        }
        for (int since = 0; since <= 90; since++) {
            C.is("17: " + since + " DAYS since", x.due(0, 10 + since), 100 + 7 * (1 + since / 10));
        }
    }

    /** A YEAR begun is 10 DAYS of the entry's, on whatever DAY of a YEAR it came. */
    private static void yearsAreTheEntrysOwn() {
        for (int late = 1; late <= 9; late++) {
            FairRents x = home(1000, 7);
            x.let(0, 100);
            x.days(late);
            x.ask(0);
            x.days(30);
            int day = 10 + late;
            C.is("17: on DAY " + day, x.due(0, day), 107);
            C.is("17: the next YEAR's first DAY, after DAY " + day, x.due(0, 20), 107);
            C.is("17: 9 DAYS since DAY " + day, x.due(0, day + 9), 107);
            C.is("17: 10 DAYS since DAY " + day, x.due(0, day + 10), 114);
            C.is("17: 19 DAYS since DAY " + day, x.due(0, day + 19), 114);
            C.is("17: 20 DAYS since DAY " + day, x.due(0, day + 20), 121);
        }
    }

    /** "R at most" */
    private static void rentAtMost() {
        int[] rents = {119, 120, 121, 130};
        int[] second = {119, 120, 120, 120};
        int[] third = {119, 120, 121, 130};
        for (int i = 0; i < rents.length; i++) {
            FairRents x = home(rents[i], 10);
            x.let(0, 100);
            x.ask(0);
            for (int n = 0; n < 9; n++) {
                x.days(30);
            }
            C.is("17: R " + rents[i] + ", the first YEAR", x.due(0, 10), 110);
            C.is("17: R " + rents[i] + ", the second", x.due(0, 20), second[i]);
            C.is("17: R " + rents[i] + ", the third", x.due(0, 30), third[i]);
            C.is("17: R " + rents[i] + ", for good", x.due(0, 280), rents[i]);
        }
    }

    /** STEP 1 and 500, over as long as there can be. */
    private static void leastAndMostStep() {
        FairRents one = new FairRents();
        one.home(0, 0, 5, 0);
        one.like(0, 50, 5000);
        one.law(1, 0, 0, 0, 1, 0, 1, 60);
        one.let(0, 1);
        one.days(10);
        one.ask(0);
        FairRents many = home(5000, 500);
        many.let(0, 1);
        many.ask(0);
        for (int i = 0; i < 29; i++) {
            one.days(10);
            many.days(10);
        }
        C.is("17: STEP 1, its DAY", one.due(0, 10), 2);
        C.is("17: STEP 1, DAY 299", one.due(0, 299), 30);
        C.is("17: STEP 1, DAY 300", one.due(0, 300), 31);
        C.is("17: STEP 500, its DAY", many.due(0, 10), 501);
        C.is("17: STEP 500, DAY 99", many.due(0, 99), 4501);
        C.is("17: STEP 500, DAY 100", many.due(0, 100), 5000);
        C.is("17: STEP 500, DAY 300", many.due(0, 300), 5000);
    }

    /** "STEP (of that entry's LAW)" */
    private static void stepOfTheEntrysLaw() {
        FairRents x = home(1000, 7);
        x.law(2, 0, 0, 0, 1, 0, 300, 0);
        x.let(0, 100);
        x.days(9);
        x.ask(0);
        x.days(30);
        C.is("17: the YEAR's last DAY", x.due(0, 19), 107);
        C.is("17: another LAW's first DAY", x.due(0, 20), 107);
        C.is("17: 10 DAYS since", x.due(0, 29), 114);
        C.is("17: 30 DAYS since", x.due(0, 49), 128);
        x.ask(0);
        C.is("17: an entry of the other LAW", x.due(0, 49), 421);
    }

    /** "on the letting's first DAY the rent of the letting" */
    private static void onTheLettingsFirstDay() {
        FairRents x = home(1000, 7);
        x.let(0, 100);
        x.ask(0);
        C.is("17: O is its rent", x.due(0, 10), 107);
        x.ask(0);
        C.is("17: of a second entry too", x.due(0, 10), 107);
        x.days(1);
        x.let(0, 500);
        x.ask(0);
        C.is("17: a new letting's", x.due(0, 11), 507);
        FairRents y = new FairRents();
        y.home(0, 0, 5, 0);
        y.like(0, 50, 5000);
        y.let(0, 100);
        y.ask(0);
        C.is("17: on DAY 0", y.due(0, 0), 600);
    }

    /** "O the DUE of the DAY before the latest entry" */
    private static void fromTheDayBefore() {
        FairRents x = home(1000, 7);
        x.let(0, 100);
        x.ask(0);
        x.days(9);
        x.ask(0);
        C.is("17: O is 107, the 10th DAY", x.due(0, 19), 114);
        x.days(11);
        C.is("17: a YEAR of the second begun", x.due(0, 29), 121);
        x.ask(0);
        C.is("17: the third, DAY 30", x.due(0, 30), 128);
        x.days(1);
        x.ask(0);
        C.is("17: the fourth, DAY 31", x.due(0, 31), 135);
        C.is("17: the first still", x.due(0, 18), 107);
        C.is("17: the second still", x.due(0, 28), 114);
        C.is("17: the third still", x.due(0, 30), 128);
    }

    /** "the latest entry (of that DAY or ahead of it ..)": O is of the DAY before, for each. */
    private static void severalOnOneDay() {
        FairRents x = home(1000, 7);
        x.let(0, 100);
        x.days(1);
        x.ask(0);
        x.ask(0);
        x.ask(0);
        C.is("17: three on one DAY", x.due(0, 11), 107);
        change(x, 0, 60);
        x.ask(0);
        C.is("17: then a lower one", x.due(0, 11), 60);
        change(x, 1, 103);
        x.ask(0);
        C.is("17: then R below a STEP from the DAY before", x.due(0, 11), 103);
        x.appeal(0);
        C.is("17: the lower one again", x.due(0, 11), 60);
        x.appeal(0);
        C.is("17: the third again", x.due(0, 11), 107);
        C.is("17: the DAY before", x.due(0, 10), 100);
    }

    private static void risesAndFalls() {
        FairRents x = home(1000, 7);
        x.let(0, 100);
        x.ask(0);
        x.days(10);
        change(x, 0, 50);
        x.ask(0);
        x.days(10);
        change(x, 1, 80);
        x.ask(0);
        x.days(30);
        int[] day = {10, 19, 20, 29, 30, 39, 40, 50, 60};
        int[] due = {107, 107, 50, 50, 57, 57, 64, 71, 78};
        for (int i = 0; i < day.length; i++) {
            C.is("17: DAY " + day[i], x.due(0, day[i]), due[i]);
        }
    }

    /** "entry that stands": an unwound one leaves no trace in what is DUE. */
    private static void unwound() {
        FairRents x = home(1000, 7);
        x.let(0, 100);
        x.ask(0);
        x.days(5);
        x.ask(0);
        x.days(5);
        C.is("17: both", x.due(0, 20), 114);
        x.appeal(0);
        C.is("17: the first alone, its 5th DAY", x.due(0, 15), 107);
        C.is("17: the first alone, its 10th DAY", x.due(0, 19), 107);
        C.is("17: the first alone, its 11th DAY", x.due(0, 20), 114);
        x.ask(0);
        C.is("17: one that comes later", x.due(0, 20), 114);
        x.days(5);
        C.is("17: the unwound one is none", x.due(0, 24), 114);
        C.is("17: nor its YEARS", x.due(0, 25), 114);
    }

    /** "of this letting" */
    private static void ofThisLetting() {
        FairRents x = home(1000, 7);
        x.let(0, 100);
        x.ask(0);
        x.let(0, 300);
        C.is("17: asked ahead of it, the same DAY", x.due(0, 10), 300);
        x.ask(0);
        C.is("17: asked in it, the same DAY", x.due(0, 10), 307);
        x.let(0, 400);
        x.days(10);
        C.is("17: a third letting", x.due(0, 20), 400);
        x.ask(0);
        C.is("17: its own entry", x.due(0, 20), 407);
        C.is("17: the DAY before that", x.due(0, 19), 400);
    }

    private static void ofThisHome() {
        FairRents x = home(1000, 7);
        x.home(0, 0, 5, 0);
        x.let(0, 100);
        x.let(1, 200);
        x.ask(1);
        C.is("17: another HOME's entry", x.due(0, 10), 100);
        C.is("17: that HOME", x.due(1, 10), 207);
        x.ask(0);
        x.days(1);
        x.ask(1);
        C.is("17: its own", x.due(0, 11), 107);
        C.is("17: that HOME's second", x.due(1, 11), 214);
    }

    private static void refusedChangesNothing() {
        Story.empty(C).refuses("due(0, 0)", BAD, x -> x.due(0, 0));
        Story busy = Story.busy(C);
        busy.refuses("due(0, -1)", BAD, x -> x.due(0, -1));
        busy.refuses("due(0, 28)", BAD, x -> x.due(0, 28));
        busy.refuses("due(-1, 0)", BAD, x -> x.due(-1, 0));
        busy.refuses("due(4, 0)", BAD, x -> x.due(4, 0));
        busy.refuses("due(3, 27), not let", STATE, x -> x.due(3, 27));
        busy.refuses("due(2, 21), not by then", STATE, x -> x.due(2, 21));
        busy.refuses("due(1, 26), not by then", STATE, x -> x.due(1, 26));
        Story.full(C).refuses("due(8, 0)", BAD, x -> x.due(8, 0));
    }
}
