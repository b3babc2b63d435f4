/** The edges of promises 11 to 13: lettings, asks, and from which DAY on an ask is heard. */
public final class RegisterEdgesTest {
    private static final Check C = new Check();
    private static final int BAD = FairRents.BAD, STATE = FairRents.STATE, FULL = FairRents.FULL;
    private static final int NONE = FairRents.NONE, NO = FairRents.NO;

    public static void main(String[] args) {
        p11Rents();
        p11NoSuchHome();
        p11NoneAtFirst();
        p11FromTodayOn();
        p11EndsTheOneBefore();
        p11EntriesStay();
        p11RefusedChangesNothing();
        p12NoSuchHome();
        p12NotLet();
        p12TooEarlyByEachBar();
        p12TooEarlyAtFirst();
        p12BarOfTheEntrysLaw();
        p12OfItsOwnHome();
        p12OfTheLatestThatStands();
        p12TheRentOfToday();
        p12TwentyAtMost();
        p12UnwoundOnesKeepTheirPlace();
        p12OrderOfRefusals();
        p12RefusedChangesNothing();
        p13NoEntry();
        p13FromTodayOn();
        p13AsAsksAreHeard();
        p13Above300();
        p13RefusedChangesNothing();
        C.end();
    }

    /** HOME 0 of 50 POINTS, with THE RENT 200, and from DAY 10 (TODAY) on a LAW with this BAR. */
    private static FairRents barred(int bar) {
        FairRents x = new FairRents();
        x.home(0, 0, 5, 0);
        x.like(0, 50, 200);
        x.law(1, 0, 0, 0, 1, 0, 500, bar);
        x.days(10);
        return x;
    }

    private static void goBy(FairRents x, int days) {
        int left = days;
        for (; left > 30; left -= 30) {
            x.days(30);
        }
        if (left > 0) {
            x.days(left);
        }
    }

    /** "A LETTING of a HOME: a rent (1 .. 5000)" */
    private static void p11Rents() {
        for (int rent : new int[] {1, 2, 4999, 5000}) {
            FairRents x = new FairRents();
            x.home(0, 0, 5, 0);
            C.is("11: rent " + rent, x.let(0, rent), 1);
            C.is("11: DUE " + rent, x.due(0, 0), rent);
        }
        FairRents x = new FairRents();
        x.home(0, 0, 5, 0);
        for (int rent : Check.outside(1, 5000)) {
            C.is("11: rent " + rent, x.let(0, rent), BAD);
        }
        C.is("11: not let", x.count(4), 0);
    }

    private static void p11NoSuchHome() {
        FairRents x = new FairRents();
        C.is("11: none yet", x.let(0, 1), BAD);
        x.home(0, 0, 5, 0);
        C.is("11: the first one not there", x.let(1, 1), BAD);
        for (int h : Check.outside(0, 7)) {
            C.is("11: HOME " + h, x.let(h, 1), BAD);
        }
        C.is("11: the last one there", x.let(0, 1), 1);
        for (int h = 1; h < 8; h++) {
            x.home(0, 0, 5, 0);
        }
        C.is("11: the eighth", x.let(7, 1), 1);
        C.is("11: a ninth", x.let(8, 1), BAD);
    }

    /** "there is none at first" */
    private static void p11NoneAtFirst() {
        FairRents x = new FairRents();
        x.home(0, 0, 5, 0);
        C.is("11: HOMES that are let", x.count(4), 0);
        C.is("11: ask", x.ask(0), STATE);
        C.is("11: due", x.due(0, 0), STATE);
        C.is("11: pay", x.pay(0, 0), STATE);
        C.is("11: owed", x.owed(0, 0), NO);
        x.let(0, 1);
        C.is("11: then one is", x.count(4), 1);
    }

    /** "A LETTING, from TODAY on: 1." */
    private static void p11FromTodayOn() {
        FairRents x = new FairRents();
        x.home(0, 0, 5, 0);
        x.days(7);
        C.is("11: let", x.let(0, 100), 1);
        C.is("11: the DAY before", x.due(0, 6), STATE);
        C.is("11: TODAY", x.due(0, 7), 100);
        x.days(1);
        C.is("11: the DAY after", x.due(0, 8), 100);
        C.is("11: the first DAY still", x.due(0, 7), 100);
    }

    /** "A new letting of a HOME ends the one before" */
    private static void p11EndsTheOneBefore() {
        FairRents x = new FairRents();
        x.home(0, 0, 5, 0);
        x.let(0, 100);
        x.pay(0, 40);
        x.days(5);
        x.pay(0, 2);
        C.is("11: again", x.let(0, 300), 1);
        C.is("11: DUE before it", x.due(0, 4), STATE);
        C.is("11: OWED before it", x.owed(0, 4), NO);
        C.is("11: DUE on its first DAY", x.due(0, 5), 300);
        C.is("11: OWED on its first DAY", x.owed(0, 5), 300);
        C.is("11: nothing PAID of it", x.pay(0, 0), 0);
        C.is("11: one HOME is let", x.count(4), 1);
    }

    /** "entries stay (they hold its BAR), but are none of this letting" */
    private static void p11EntriesStay() {
        FairRents x = barred(12);
        x.let(0, 100);
        x.ask(0);
        x.let(0, 100);
        C.is("11: none of this letting, the same DAY", x.due(0, 10), 100);
        x.days(11);
        x.let(0, 100);
        C.is("11: it stands", x.entry(0, 6), 1);
        C.is("11: it is the latest", x.latest(0), 0);
        C.is("11: it holds its BAR", x.open(0), 22);
        C.is("11: too early", x.ask(0), STATE);
        C.is("11: none of this letting", x.due(0, 21), 100);
        x.days(1);
        C.is("11: no more too early", x.ask(0), 1);
        C.is("11: one of this letting", x.due(0, 22), 200);
        C.is("11: the DAY before", x.due(0, 21), 100);
    }

    private static void p11RefusedChangesNothing() {
        Story.empty(C).refuses("let(0, 1)", BAD, x -> x.let(0, 1));
        Story busy = Story.busy(C);
        busy.refuses("let(0, 0)", BAD, x -> x.let(0, 0));
        busy.refuses("let(0, -1)", BAD, x -> x.let(0, -1));
        busy.refuses("let(0, 5001)", BAD, x -> x.let(0, 5001));
        busy.refuses("let(3, 0), not let", BAD, x -> x.let(3, 0));
        busy.refuses("let(-1, 1)", BAD, x -> x.let(-1, 1));
        busy.refuses("let(4, 1)", BAD, x -> x.let(4, 1));
        Story.full(C).refuses("let(8, 1)", BAD, x -> x.let(8, 1));
    }

    private static void p12NoSuchHome() {
        FairRents x = new FairRents();
        C.is("12: none yet", x.ask(0), BAD);
        x.home(0, 0, 5, 0);
        x.let(0, 1);
        C.is("12: the first one not there", x.ask(1), BAD);
        for (int h : Check.outside(0, 7)) {
            C.is("12: HOME " + h, x.ask(h), BAD);
        }
        C.is("12: no entry", x.count(2), 0);
        C.is("12: the last one there", x.ask(0), 0);
    }

    /** "STATE: the HOME is not let" */
    private static void p12NotLet() {
        FairRents x = new FairRents();
        x.home(0, 0, 5, 0);
        x.home(0, 0, 5, 0);
        x.let(1, 1);
        C.is("12: not let", x.ask(0), STATE);
        C.is("12: let", x.ask(1), 0);
        x.let(0, 1);
        C.is("12: let now", x.ask(0), 1);
    }

    /** "too early, if TODAY is before the DAY of its latest entry that stands and BAR .. DAYS" */
    private static void p12TooEarlyByEachBar() {
        for (int bar : new int[] {0, 1, 2, 5, 6, 10, 59, 60}) {
            FairRents x = barred(bar);
            x.let(0, 100);
            C.is("12: BAR " + bar + ", the first", x.ask(0), 0);
            if (bar > 0) {
                C.is("12: BAR " + bar + ", the same DAY", x.ask(0), STATE);
                goBy(x, bar - 1);
                C.is("12: BAR " + bar + ", the last DAY too early", x.ask(0), STATE);
                x.days(1);
            }
            C.is("12: BAR " + bar + ", the first DAY that is not", x.ask(0), 1);
            C.is("12: BAR " + bar + ", on DAY", x.entry(1, 1), 10 + bar);
        }
    }

    /** BAR 20 of the LAW in force at first. */
    private static void p12TooEarlyAtFirst() {
        FairRents x = new FairRents();
        x.home(0, 0, 5, 0);
        x.let(0, 100);
        x.ask(0);
        x.days(19);
        C.is("12: DAY 19", x.ask(0), STATE);
        x.days(1);
        C.is("12: DAY 20", x.ask(0), 1);
    }

    /** "BAR (of the LAW of that entry's DAY)" */
    private static void p12BarOfTheEntrysLaw() {
        FairRents longer = barred(15);
        longer.law(2, 0, 0, 0, 1, 0, 500, 0);
        longer.let(0, 100);
        longer.ask(0);
        longer.days(14);
        C.is("12: a lower BAR came since", longer.ask(0), STATE);
        longer.days(1);
        C.is("12: its own is over", longer.ask(0), 1);
        C.is("12: BAR 0 now", longer.ask(0), 2);
        FairRents shorter = barred(11);
        shorter.law(2, 0, 0, 0, 1, 0, 500, 60);
        shorter.let(0, 100);
        shorter.ask(0);
        shorter.days(11);
        C.is("12: a higher BAR came since", shorter.ask(0), 1);
        C.is("12: that one holds now", shorter.open(0), 81);
    }

    /** "its latest entry": another HOME's does not bar it. */
    private static void p12OfItsOwnHome() {
        FairRents x = barred(60);
        x.home(0, 0, 5, 0);
        x.let(0, 100);
        x.let(1, 100);
        C.is("12: HOME 0", x.ask(0), 0);
        C.is("12: HOME 1", x.ask(1), 1);
        C.is("12: HOME 0 again", x.ask(0), STATE);
        x.appeal(1);
        C.is("12: HOME 0 still", x.ask(0), STATE);
        C.is("12: HOME 1 again", x.ask(1), 2);
    }

    /** "its latest entry that stands" */
    private static void p12OfTheLatestThatStands() {
        FairRents x = barred(4);
        x.let(0, 100);
        x.ask(0);
        x.days(4);
        x.ask(0);
        C.is("12: barred by the later one", x.open(0), 18);
        x.appeal(0);
        C.is("12: the earlier one's is over", x.open(0), 14);
        C.is("12: so an ask is heard", x.ask(0), 2);
        x.appeal(0);
        x.appeal(0);
        C.is("12: none stands", x.latest(0), NONE);
        C.is("12: so none bars", x.ask(0), 3);
    }

    /** "THE RENT of TODAY is REGISTERED" */
    private static void p12TheRentOfToday() {
        FairRents x = new FairRents();
        x.home(0, 0, 5, 0);
        x.law(1, 0, 0, 0, 1, 0, 500, 0);
        x.law(2, 50, 0, 0, 1, 0, 500, 0);
        x.let(0, 100);
        x.days(19);
        x.like(0, 50, 200);
        x.ask(0);
        x.days(1);
        x.ask(0);
        x.like(0, 50, 90);
        x.ask(0);
        x.strike(0);
        x.strike(1);
        x.ask(0);
        int[] rents = {200, 100, 45, 1};
        for (int e = 0; e < rents.length; e++) {
            C.is("12: RENT of entry " + e, x.entry(e, 2), rents[e]);
        }
    }

    /** "an entry (20 at most)" */
    private static void p12TwentyAtMost() {
        FairRents x = barred(0);
        x.let(0, 100);
        for (int e = 0; e < 20; e++) {
            C.is("12: the number of entry " + e, x.ask(0), e);
            C.is("12: so many", x.count(2), e + 1);
        }
        C.is("12: the twenty-first", x.ask(0), FULL);
        x.days(30);
        C.is("12: and later", x.ask(0), FULL);
        C.is("12: twenty", x.count(2), 20);
        C.is("12: the twentieth stands", x.entry(19, 6), 1);
        Story full = Story.full(C);
        full.refuses("a twenty-first entry", FULL, y -> y.ask(0));
        full.refuses("a twenty-first entry, HOME 7's first", FULL, y -> y.ask(7));
    }

    /** An entry that is UNWOUND is one still: it keeps its number and its place among the 20. */
    private static void p12UnwoundOnesKeepTheirPlace() {
        FairRents x = barred(60);
        x.let(0, 100);
        for (int e = 0; e < 20; e++) {
            C.is("12: the number of entry " + e, x.ask(0), e);
            C.is("12: unwound", x.appeal(0), e);
        }
        C.is("12: the twenty-first", x.ask(0), FULL);
        C.is("12: twenty", x.count(2), 20);
        C.is("12: none stands", x.latest(0), NONE);
    }

    /** "Refused .. the first of these: BAD .., STATE .., FULL." */
    private static void p12OrderOfRefusals() {
        FairRents x = barred(3);
        x.home(0, 0, 5, 0);
        x.let(0, 100);
        for (int e = 0; e < 20; e++) {
            x.ask(0);
            if (e < 19) {
                x.appeal(0);
            }
        }
        C.is("12: twenty", x.count(2), 20);
        C.is("12: no such HOME", x.ask(2), BAD);
        C.is("12: not let", x.ask(1), STATE);
        C.is("12: too early", x.ask(0), STATE);
        x.days(2);
        C.is("12: too early by one", x.ask(0), STATE);
        x.days(1);
        C.is("12: FULL alone", x.ask(0), FULL);
    }

    private static void p12RefusedChangesNothing() {
        Story.empty(C).refuses("ask(0)", BAD, x -> x.ask(0));
        Story busy = Story.busy(C);
        busy.refuses("ask(-1)", BAD, x -> x.ask(-1));
        busy.refuses("ask(4)", BAD, x -> x.ask(4));
        busy.refuses("ask(3), not let", STATE, x -> x.ask(3));
        busy.refuses("ask(0), too early", STATE, x -> x.ask(0));
        busy.refuses("ask(2), too early", STATE, x -> x.ask(2));
        Story.full(C).refuses("ask(8)", BAD, x -> x.ask(8));
    }

    /** "The first DAY, from TODAY on, on which an ASK is not too early.": let or not. */
    private static void p13NoEntry() {
        FairRents x = new FairRents();
        x.home(0, 0, 5, 0);
        C.is("13: DAY 0", x.open(0), 0);
        x.days(3);
        C.is("13: not let", x.open(0), 3);
        x.let(0, 100);
        C.is("13: let", x.open(0), 3);
        x.ask(0);
        x.appeal(0);
        C.is("13: none that stands", x.open(0), 3);
    }

    private static void p13FromTodayOn() {
        FairRents x = barred(2);
        x.let(0, 100);
        x.ask(0);
        int[] due = {12, 12, 12, 13, 14};
        for (int i = 0; i < due.length; i++) {
            C.is("13: TODAY " + (10 + i), x.open(0), due[i]);
            x.days(1);
        }
        FairRents y = barred(0);
        y.let(0, 100);
        y.ask(0);
        C.is("13: BAR 0", y.open(0), 10);
    }

    /** For each BAR: an ASK is heard on that DAY, and is too early the DAY before. */
    private static void p13AsAsksAreHeard() {
        for (int bar = 0; bar <= 60; bar++) {
            FairRents x = barred(bar);
            x.let(0, 100);
            x.ask(0);
            int opens = x.open(0);
            C.is("13: BAR " + bar, opens, 10 + bar);
            goBy(x, Math.max(0, opens - 11));
            if (bar > 0) {
                C.is("13: BAR " + bar + ", the DAY before", x.ask(0), STATE);
                x.days(1);
            }
            C.is("13: BAR " + bar + ", that DAY", x.open(0), opens);
            C.is("13: BAR " + bar + ", heard", x.ask(0), 1);
        }
    }

    /** No DAY is above 300, but the first one on which an ASK were heard may be. */
    private static void p13Above300() {
        FairRents x = new FairRents();
        x.home(0, 0, 5, 0);
        x.law(30, 0, 0, 0, 1, 0, 1, 60);
        goBy(x, 300);
        x.let(0, 100);
        C.is("13: DAY 300", x.open(0), 300);
        C.is("13: an ask then", x.ask(0), 0);
        C.is("13: above", x.open(0), 360);
        C.is("13: too early", x.ask(0), STATE);
    }

    private static void p13RefusedChangesNothing() {
        Story.empty(C).refuses("open(0)", BAD, x -> x.open(0));
        Story busy = Story.busy(C);
        busy.refuses("open(-1)", BAD, x -> x.open(-1));
        busy.refuses("open(4)", BAD, x -> x.open(4));
        Story.full(C).refuses("open(8)", BAD, x -> x.open(8));
        FairRents x = new FairRents();
        x.home(0, 0, 5, 0);
        for (int h : Check.outside(0, 7)) {
            C.is("13: HOME " + h, x.open(h), BAD);
        }
        C.is("13: the first one not there", x.open(1), BAD);
    }
}
