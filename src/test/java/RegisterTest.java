/** Promises 10 to 16: heads, lettings, asks, appeals and entries. */
public final class RegisterTest {
    private static final Check C = new Check();
    private static final int[] WRONG = {Integer.MIN_VALUE, -1, Integer.MAX_VALUE};

    public static void main(String[] args) {
        promise10HeadMiddle();
        promise10HeadOthers();
        promise10HeadRefused();
        promise11Let();
        promise12Ask();
        promise12AskFull();
        promise13Open();
        promise13OpenByTheEntrysLaw();
        promise14Appeal();
        promise14AppealOfAnOldLetting();
        promise15Entry();
        promise16Latest();
        C.end();
    }

    private static void promise10HeadMiddle() {
        FairRents x = new FairRents();
        x.home(0, 0, 5, 0);
        C.is("10: none", x.head(0, 0, 0), 0);
        C.is("10: no rent below 1", x.head(0, 0, 3), 1);
        int[] rents = {500, 100, 300, 200, 400, 300};
        int[] middles = {500, 100, 300, 200, 300, 300};
        for (int i = 0; i < rents.length; i++) {
            x.like(0, 50, rents[i]);
            C.is("10: middle of " + (i + 1), x.head(0, 0, 0), middles[i]);
            C.is("10: counted " + (i + 1), x.head(0, 0, 4), i + 1);
        }
        x.like(1, 50, 1);
        C.is("10: another AREA", x.head(0, 0, 4), 6);
        FairRents z = new FairRents();
        z.home(0, 0, 5, 0);
        for (int i = 12; i > 0; i--) {
            z.like(0, 50, 10 * i);
        }
        C.is("10: all twelve count", z.head(0, 0, 4), 12);
        C.is("10: the lower of both", z.head(0, 0, 0), 60);
        C.is("10: a day to come", x.head(0, 300, 0), 300);
        FairRents y = new FairRents();
        y.home(2, 2, 3, 4);
        y.like(2, 10, 100);
        y.like(2, 200, 100);
        y.law(2, 0, 0, 0, 9, 0, 1, 0);
        C.is("10: fewer POINTS, WEIGHT 1", y.head(0, 19, 0), -83);
        y.strike(1);
        C.is("10: more POINTS, WEIGHT 1", y.head(0, 19, 0), 107);
        C.is("10: more POINTS, WEIGHT 9", y.head(0, 20, 0), 163);
        C.is("10: heads leave no trace", y.trace(), 0);
    }

    private static void promise10HeadOthers() {
        FairRents x = new FairRents();
        x.home(0, 0, 5, 0);
        x.home(0, 1, 5, 0);
        x.home(0, 2, 5, 0);
        x.faults(1, 3);
        for (int area = 0; area < 3; area++) {
            x.like(area, 50, 199);
        }
        x.law(1, 10, 33, 90, 1, 20, 500, 20);
        C.is("10: AREA 0", x.head(0, 10, 1), -19);
        C.is("10: AREA 1", x.head(1, 10, 1), -65);
        C.is("10: AREA 2", x.head(2, 10, 1), -179);
        C.is("10: no FAULTS", x.head(0, 10, 2), 0);
        C.is("10: FAULTS", x.head(1, 10, 2), -60);
        C.is("10: all together", x.head(1, 10, 3), 74);
        C.is("10: the first LAW", x.head(1, 9, 3), 199);
        x.faults(1, 9);
        C.is("10: 1 at least", x.head(1, 10, 3), 1);
        x.like(2, 200, 1);
        C.is("10: below 0", x.head(2, 10, 0), -149);
        C.is("10: nothing off below 0", x.head(2, 10, 1), 0);
        C.is("10: 1 at least", x.head(2, 10, 3), 1);
    }

    private static void promise10HeadRefused() {
        FairRents x = new FairRents();
        C.is("10: no home", x.head(0, 0, 0), FairRents.NO);
        x.home(0, 0, 5, 0);
        for (int w : WRONG) {
            C.is("10: home " + w, x.head(w, 0, 0), FairRents.NO);
            C.is("10: DAY " + w, x.head(0, w, 0), FairRents.NO);
            C.is("10: what " + w, x.head(0, 0, w), FairRents.NO);
        }
        C.is("10: home 1", x.head(1, 0, 0), FairRents.NO);
        C.is("10: home 8", x.head(8, 0, 0), FairRents.NO);
        C.is("10: DAY 300", x.head(0, 300, 0), 0);
        C.is("10: DAY 301", x.head(0, 301, 0), FairRents.NO);
        C.is("10: what 5", x.head(0, 0, 5), FairRents.NO);
    }

    private static void promise11Let() {
        FairRents x = new FairRents();
        C.is("11: no home", x.let(0, 1), FairRents.BAD);
        x.home(0, 0, 5, 0);
        for (int w : WRONG) {
            C.is("11: rent " + w, x.let(0, w), FairRents.BAD);
            C.is("11: home " + w, x.let(w, 1), FairRents.BAD);
        }
        C.is("11: rent 0", x.let(0, 0), FairRents.BAD);
        C.is("11: rent 5001", x.let(0, 5001), FairRents.BAD);
        C.is("11: not let", x.count(4), 0);
        C.is("11: rent 1", x.let(0, 1), 1);
        C.is("11: let", x.count(4), 1);
        C.is("11: rent 5000, the same DAY", x.let(0, 5000), 1);
        C.is("11: the new one", x.due(0, 0), 5000);
        x.pay(0, 70);
        x.days(3);
        C.is("11: again", x.let(0, 200), 1);
        C.is("11: one HOME", x.count(4), 1);
        C.is("11: from TODAY on", x.due(0, 2), FairRents.STATE);
        C.is("11: DUE", x.due(0, 3), 200);
        C.is("11: nothing PAID", x.pay(0, 0), 0);
        x.pay(0, 30);
        C.is("11: another on a DAY with a sum", x.let(0, 200), 1);
        C.is("11: OWED from its first DAY", x.owed(0, 3), 200);
    }

    private static void promise12Ask() {
        FairRents x = new FairRents();
        C.is("12: no home", x.ask(0), FairRents.BAD);
        x.home(0, 0, 5, 0);
        x.home(0, 1, 5, 0);
        x.like(0, 50, 250);
        for (int w : WRONG) {
            C.is("12: home " + w, x.ask(w), FairRents.BAD);
        }
        C.is("12: home 2", x.ask(2), FairRents.BAD);
        C.is("12: not let", x.ask(0), FairRents.STATE);
        x.let(0, 100);
        x.let(1, 100);
        C.is("12: the first", x.ask(0), 0);
        C.is("12: its RENT", x.entry(0, 2), 250);
        C.is("12: too early the same DAY", x.ask(0), FairRents.STATE);
        C.is("12: another HOME is free", x.ask(1), 1);
        x.days(19);
        C.is("12: too early by 1", x.ask(0), FairRents.STATE);
        x.let(0, 300);
        C.is("12: a new letting keeps the BAR", x.ask(0), FairRents.STATE);
        C.is("12: refused asks make none", x.count(2), 2);
        x.days(1);
        C.is("12: no more too early", x.ask(0), 2);
        x.appeal(0);
        C.is("12: no BAR of it is left", x.ask(0), 3);
    }

    private static void promise12AskFull() {
        FairRents x = new FairRents();
        x.law(1, 0, 0, 0, 1, 0, 1, 0);
        x.days(10);
        x.home(0, 0, 5, 0);
        x.home(0, 0, 5, 0);
        x.let(0, 100);
        for (int i = 0; i < 20; i++) {
            C.is("12: BAR 0, ask " + i, x.ask(0), i);
        }
        C.is("12: FULL", x.ask(0), FairRents.FULL);
        C.is("12: STATE before FULL", x.ask(1), FairRents.STATE);
        C.is("12: BAD before FULL", x.ask(2), FairRents.BAD);
        x.appeal(0);
        C.is("12: an unwound one keeps its place", x.ask(0), FairRents.FULL);
        C.is("12: twenty", x.count(2), 20);
        C.is("12: the last is unwound", x.entry(19, 6), 0);
        C.is("12: the one before is not", x.latest(0), 18);
    }

    private static void promise13Open() {
        FairRents x = new FairRents();
        C.is("13: no home", x.open(0), FairRents.BAD);
        x.home(0, 0, 5, 0);
        for (int w : WRONG) {
            C.is("13: home " + w, x.open(w), FairRents.BAD);
        }
        C.is("13: home 1", x.open(1), FairRents.BAD);
        x.days(4);
        C.is("13: not let, TODAY", x.open(0), 4);
        x.let(0, 100);
        C.is("13: TODAY", x.open(0), 4);
        x.ask(0);
        C.is("13: the BAR", x.open(0), 24);
        x.days(20);
        C.is("13: its last", x.open(0), 24);
        x.days(1);
        C.is("13: TODAY again", x.open(0), 25);
    }

    private static void promise13OpenByTheEntrysLaw() {
        FairRents x = new FairRents();
        x.home(0, 0, 5, 0);
        x.law(1, 0, 0, 0, 1, 0, 1, 60);
        x.law(2, 0, 0, 0, 1, 0, 1, 3);
        x.let(0, 100);
        x.days(10);
        x.ask(0);
        x.days(10);
        C.is("13: BAR of the LAW of the entry's DAY", x.open(0), 70);
        C.is("13: and the ask is too early", x.ask(0), FairRents.STATE);
        x.days(30);
        x.days(20);
        C.is("13: not on the DAY itself", x.ask(0), 1);
        C.is("13: of the latest entry", x.open(0), 73);
        x.appeal(0);
        C.is("13: of the one before, once unwound", x.open(0), 70);
    }

    private static void promise14Appeal() {
        FairRents x = new FairRents();
        C.is("14: no home", x.appeal(0), FairRents.BAD);
        x.home(0, 0, 5, 0);
        x.home(0, 0, 5, 0);
        x.like(0, 50, 250);
        for (int w : WRONG) {
            C.is("14: home " + w, x.appeal(w), FairRents.BAD);
        }
        C.is("14: home 2", x.appeal(2), FairRents.BAD);
        C.is("14: none stands", x.appeal(0), FairRents.STATE);
        x.let(0, 100);
        x.let(1, 100);
        x.ask(0);
        x.ask(1);
        x.days(5);
        C.is("14: within 5 DAYS", x.appeal(0), 0);
        C.is("14: it does not stand", x.entry(0, 6), 0);
        C.is("14: none stands any more", x.appeal(0), FairRents.STATE);
        C.is("14: DUE on its DAY", x.due(0, 0), 100);
        x.days(1);
        C.is("14: more than 5 DAYS ago", x.appeal(1), FairRents.STATE);
        C.is("14: it stands", x.entry(1, 6), 1);
    }

    private static void promise14AppealOfAnOldLetting() {
        FairRents x = new FairRents();
        x.home(0, 0, 5, 0);
        x.like(0, 50, 250);
        x.let(0, 100);
        x.ask(0);
        x.days(2);
        x.let(0, 90);
        C.is("14: the entry holds the BAR", x.open(0), 20);
        C.is("14: of the letting before", x.appeal(0), 0);
        C.is("14: no BAR is left", x.open(0), 2);
        C.is("14: DUE of this letting", x.due(0, 2), 90);
    }

    private static void promise15Entry() {
        FairRents x = new FairRents();
        C.is("15: none", x.entry(0, 0), FairRents.NO);
        x.home(0, 0, 1, 0);
        x.home(0, 1, 5, 0);
        x.faults(1, 2);
        x.like(1, 50, 301);
        x.law(1, 0, 50, 0, 1, 7, 1, 0);
        x.days(13);
        x.let(1, 100);
        x.ask(1);
        int[] due = {1, 13, 137, 301, -150, -14, 1};
        x.strike(0);
        x.days(1);
        x.law(2, 90, 90, 90, 9, 20, 1, 0);
        for (int what = 0; what < due.length; what++) {
            C.is("15: what " + what, x.entry(0, what), due[what]);
        }
        x.appeal(1);
        C.is("15: unwound", x.entry(0, 6), 0);
        C.is("15: its RENT stays", x.entry(0, 2), 137);
        C.is("15: what 7", x.entry(0, 7), FairRents.NO);
        C.is("15: entry 1", x.entry(1, 0), FairRents.NO);
        C.is("15: entry 20", x.entry(20, 0), FairRents.NO);
        for (int w : WRONG) {
            C.is("15: entry " + w, x.entry(w, 0), FairRents.NO);
            C.is("15: what " + w, x.entry(0, w), FairRents.NO);
        }
    }

    private static void promise16Latest() {
        FairRents x = new FairRents();
        C.is("16: no home", x.latest(0), FairRents.BAD);
        x.law(1, 0, 0, 0, 1, 0, 1, 0);
        x.days(10);
        x.home(0, 0, 5, 0);
        x.home(0, 0, 5, 0);
        for (int w : WRONG) {
            C.is("16: home " + w, x.latest(w), FairRents.BAD);
        }
        C.is("16: home 2", x.latest(2), FairRents.BAD);
        C.is("16: none", x.latest(0), FairRents.NONE);
        x.let(0, 100);
        x.let(1, 100);
        x.ask(0);
        x.ask(0);
        x.ask(1);
        C.is("16: of HOME 0", x.latest(0), 1);
        C.is("16: of HOME 1", x.latest(1), 2);
        x.appeal(0);
        C.is("16: one that stands", x.latest(0), 0);
        x.let(0, 50);
        C.is("16: of a letting gone by", x.latest(0), 0);
        x.appeal(0);
        C.is("16: none stands", x.latest(0), FairRents.NONE);
    }
}
