/** Promises 17 to 21: what is due, paid and owed, the counts and the trace. */
public final class DuesTest {
    private static final Check C = new Check();
    private static final int[] WRONG = {Integer.MIN_VALUE, -1, Integer.MAX_VALUE};

    public static void main(String[] args) {
        promise17DueRefused();
        promise17DueSteps();
        promise17DueUpToTheRent();
        promise17DueFalls();
        promise17DueAcrossEntries();
        promise17DueSameDay();
        promise17DueOfThisLetting();
        promise18Pay();
        promise19Owed();
        promise19OwedRefused();
        promise20Count();
        promise21Trace();
        C.end();
    }

    private static void promise17DueRefused() {
        FairRents x = new FairRents();
        C.is("17: no home", x.due(0, 0), FairRents.BAD);
        x.home(0, 0, 5, 0);
        C.is("17: not let", x.due(0, 0), FairRents.STATE);
        C.is("17: BAD before STATE", x.due(0, 1), FairRents.BAD);
        x.days(3);
        x.let(0, 100);
        for (int w : WRONG) {
            C.is("17: home " + w, x.due(w, 3), FairRents.BAD);
            C.is("17: DAY " + w, x.due(0, w), FairRents.BAD);
        }
        C.is("17: home 1", x.due(1, 3), FairRents.BAD);
        C.is("17: not by then", x.due(0, 2), FairRents.STATE);
        C.is("17: its first DAY", x.due(0, 3), 100);
        C.is("17: after TODAY", x.due(0, 4), FairRents.BAD);
    }

    /** A HOME whose RENT is 200, let for less, under a LAW with this STEP and BAR from DAY 10. */
    private static FairRents stepped(int step, int bar) {
        FairRents x = new FairRents();
        x.home(0, 0, 5, 0);
        x.like(0, 50, 200);
        x.law(1, 0, 0, 0, 1, 0, step, bar);
        x.days(10);
        return x;
    }

    private static void promise17DueSteps() {
        FairRents x = stepped(15, 60);
        x.law(2, 0, 0, 0, 1, 0, 400, 60);
        x.let(0, 100);
        x.days(3);
        x.ask(0);
        x.days(30);
        C.is("17: before it came", x.due(0, 12), 100);
        C.is("17: on its first DAY", x.due(0, 13), 115);
        C.is("17: another YEAR's number begins no step", x.due(0, 20), 115);
        C.is("17: its tenth DAY", x.due(0, 22), 115);
        C.is("17: its eleventh", x.due(0, 23), 130);
        C.is("17: its twentieth", x.due(0, 32), 130);
        C.is("17: STEP of the entry's LAW", x.due(0, 43), 160);
    }

    private static void promise17DueUpToTheRent() {
        FairRents x = stepped(40, 60);
        x.let(0, 120);
        x.ask(0);
        x.days(30);
        C.is("17: one step", x.due(0, 19), 160);
        C.is("17: just there", x.due(0, 20), 200);
        C.is("17: R at most", x.due(0, 40), 200);
    }

    private static void promise17DueFalls() {
        FairRents x = stepped(15, 0);
        x.let(0, 300);
        x.days(5);
        x.ask(0);
        C.is("17: before", x.due(0, 14), 300);
        C.is("17: at once", x.due(0, 15), 200);
        x.let(0, 200);
        x.ask(0);
        C.is("17: the same", x.due(0, 15), 200);
    }

    private static void promise17DueAcrossEntries() {
        FairRents x = stepped(15, 5);
        x.let(0, 100);
        x.ask(0);
        x.days(13);
        x.ask(0);
        x.days(12);
        C.is("17: under the first", x.due(0, 22), 130);
        C.is("17: from what was due the DAY before", x.due(0, 23), 145);
        C.is("17: still", x.due(0, 32), 145);
        C.is("17: a YEAR on", x.due(0, 33), 160);
        x.ask(0);
        C.is("17: a third", x.due(0, 35), 175);
        C.is("17: the DAY before is as it was", x.due(0, 34), 160);
        x.appeal(0);
        C.is("17: unwound", x.due(0, 35), 160);
    }

    private static void promise17DueSameDay() {
        FairRents x = stepped(15, 0);
        x.let(0, 100);
        x.days(1);
        x.ask(0);
        x.ask(0);
        C.is("17: two on a DAY are one step", x.due(0, 11), 115);
        x.strike(0);
        x.like(0, 50, 105);
        x.ask(0);
        C.is("17: the latest of the DAY", x.due(0, 11), 105);
        x.appeal(0);
        C.is("17: then the one before", x.due(0, 11), 115);
        x.let(0, 100);
        x.ask(0);
        C.is("17: on the letting's first DAY", x.due(0, 11), 105);
    }

    private static void promise17DueOfThisLetting() {
        FairRents x = stepped(15, 0);
        x.home(0, 0, 5, 0);
        x.let(0, 100);
        x.let(1, 70);
        x.ask(0);
        C.is("17: of another HOME", x.due(1, 10), 70);
        x.let(0, 50);
        C.is("17: an entry of the letting before, that very DAY", x.due(0, 10), 50);
        x.ask(0);
        C.is("17: an entry of this one", x.due(0, 10), 65);
    }

    private static void promise18Pay() {
        FairRents x = new FairRents();
        C.is("18: no home", x.pay(0, 0), FairRents.BAD);
        x.home(0, 0, 5, 0);
        x.home(0, 0, 5, 0);
        C.is("18: not let", x.pay(0, 1), FairRents.STATE);
        C.is("18: BAD before STATE", x.pay(0, 100001), FairRents.BAD);
        x.let(0, 100);
        for (int w : WRONG) {
            C.is("18: home " + w, x.pay(w, 1), FairRents.BAD);
            C.is("18: sum " + w, x.pay(0, w), FairRents.BAD);
        }
        C.is("18: home 2", x.pay(2, 1), FairRents.BAD);
        C.is("18: nothing", x.pay(0, 0), 0);
        C.is("18: one", x.pay(0, 1), 1);
        for (int i = 1; i < 10; i++) {
            C.is("18: in all", x.pay(0, 100000), 100000 * i + 1);
        }
        C.is("18: FULL", x.pay(0, 100000), FairRents.FULL);
        C.is("18: nothing changes", x.pay(0, 0), 900001);
        C.is("18: 1000000", x.pay(0, 99999), 1000000);
        C.is("18: above", x.pay(0, 1), FairRents.FULL);
        C.is("18: not above", x.pay(0, 0), 1000000);
        C.is("18: BAD before FULL", x.pay(0, 100001), FairRents.BAD);
        x.let(0, 100);
        C.is("18: of this letting", x.pay(0, 7), 7);
        x.let(1, 100);
        C.is("18: of this HOME", x.pay(1, 3), 3);
    }

    private static void promise19Owed() {
        FairRents x = stepped(15, 60);
        x.let(0, 100);
        x.pay(0, 30);
        x.days(2);
        x.ask(0);
        x.pay(0, 500);
        x.pay(0, 5);
        x.days(11);
        C.is("19: the first DAY", x.owed(0, 10), 70);
        C.is("19: the second", x.owed(0, 11), 170);
        C.is("19: below 0", x.owed(0, 12), -220);
        C.is("19: ten DAYS of a step", x.owed(0, 21), 815);
        C.is("19: the next step", x.owed(0, 23), 1075);
        x.let(0, 40);
        C.is("19: a new letting", x.owed(0, 23), 40);
        x.pay(0, 1);
        x.days(4);
        C.is("19: its own sums", x.owed(0, 27), 199);
        FairRents y = new FairRents();
        y.home(0, 0, 5, 0);
        y.like(0, 50, 200);
        y.let(0, 100);
        y.ask(0);
        y.days(5);
        C.is("19: before an appeal", y.owed(0, 5), 1200);
        y.appeal(0);
        C.is("19: unwound from its DAY on", y.owed(0, 5), 600);
    }

    private static void promise19OwedRefused() {
        FairRents x = new FairRents();
        C.is("19: no home", x.owed(0, 0), FairRents.NO);
        x.home(0, 0, 5, 0);
        C.is("19: not let", x.owed(0, 0), FairRents.NO);
        x.days(3);
        x.let(0, 100);
        for (int w : WRONG) {
            C.is("19: home " + w, x.owed(w, 3), FairRents.NO);
            C.is("19: DAY " + w, x.owed(0, w), FairRents.NO);
        }
        C.is("19: home 1", x.owed(1, 3), FairRents.NO);
        C.is("19: not by then", x.owed(0, 2), FairRents.NO);
        C.is("19: after TODAY", x.owed(0, 4), FairRents.NO);
        C.is("19: its first DAY", x.owed(0, 3), 100);
        for (int i = 0; i < 9; i++) {
            x.days(30);
        }
        x.days(27);
        C.is("19: up to DAY 300", x.owed(0, 300), 29800);
        x.pay(0, 800);
        C.is("19: PAID on DAY 300", x.owed(0, 300), 29000);
        FairRents y = new FairRents();
        y.home(0, 0, 5, 0);
        y.let(0, 100);
        C.is("19: DAY 0", y.owed(0, 0), 100);
        y.pay(0, 30);
        C.is("19: PAID on DAY 0", y.owed(0, 0), 70);
    }

    private static void promise20Count() {
        FairRents x = new FairRents();
        x.home(0, 0, 5, 0);
        x.home(0, 0, 5, 0);
        x.home(0, 0, 5, 0);
        x.like(0, 50, 200);
        x.like(0, 50, 200);
        x.strike(0);
        x.let(1, 9);
        x.let(1, 10);
        x.let(2, 11);
        x.ask(1);
        x.appeal(1);
        x.days(17);
        for (int year = 2; year < 7; year++) {
            x.law(year, 0, 0, 0, 1, 0, 1, 0);
        }
        x.law(2, 1, 1, 1, 1, 1, 1, 1);
        int[] due = {3, 2, 1, 17, 2, 5};
        for (int what = 0; what < due.length; what++) {
            C.is("20: what " + what, x.count(what), due[what]);
        }
        C.is("20: what 6", x.count(6), FairRents.BAD);
        for (int w : WRONG) {
            C.is("20: what " + w, x.count(w), FairRents.BAD);
        }
    }

    private static void promise21Trace() {
        FairRents x = new FairRents();
        x.home(0, 0, 1, 0);
        x.home(1, 0, 1, 0);
        x.home(2, 0, 1, 0);
        x.like(0, 50, 200);
        C.is("21: none yet", x.trace(), 0);
        x.points(0);
        C.is("21: PLAIN", x.trace(), 1);
        x.points(1);
        C.is("21: FLAT", x.trace(), 12);
        x.points(2);
        C.is("21: OLD", x.trace(), 123);
        x.points(3);
        x.points(-1);
        C.is("21: refused", x.trace(), 123);
        x.head(2, 0, 0);
        x.let(2, 1);
        x.ask(2);
        C.is("21: only points() asks", x.trace(), 123);
        x.points(2);
        C.is("21: again", x.trace(), 234);
    }
}
