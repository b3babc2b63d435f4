/** The edges of promises 14 to 16: appeals, what entries say, and the latest one. */
public final class AppealEdgesTest {
    private static final Check C = new Check();
    private static final int BAD = FairRents.BAD, STATE = FairRents.STATE;
    private static final int NONE = FairRents.NONE, NO = FairRents.NO;

    public static void main(String[] args) {
        p14WithinFiveDays();
        p14OnTheLastDay();
        p14NoneStands();
        p14DoesNotStandEver();
        p14NoBarIsLeft();
        p14TheOneBefore();
        p14OfItsOwnHome();
        p14OfAnEarlierLetting();
        p14NoSuchHome();
        p14BadBeforeState();
        p14RefusedChangesNothing();
        p15Whats();
        p15EntriesThereAre();
        p15StaysAsItIs();
        p15HeadsBelow0();
        p15RefusedChangesNothing();
        p16None();
        p16Latest();
        p16NoSuchHome();
        p16RefusedChangesNothing();
        C.end();
    }

    /** HOME 0 of 50 POINTS, let for 100, with THE RENT 200; a LAW with this BAR; TODAY is 10. */
    private static FairRents let(int bar) {
        FairRents x = new FairRents();
        x.home(0, 0, 5, 0);
        x.like(0, 50, 200);
        x.law(1, 0, 0, 0, 1, 0, 500, bar);
        x.days(10);
        x.let(0, 100);
        return x;
    }

    /** "within 5 DAYS of it"; "STATE: .. it is more than 5 DAYS ago" */
    private static void p14WithinFiveDays() {
        for (int ago = 0; ago <= 30; ago++) {
            FairRents x = let(60);
            x.ask(0);
            if (ago > 0) {
                x.days(ago);
            }
            boolean heard = ago <= 5;
            C.is("14: " + ago + " DAYS ago", x.appeal(0), heard ? 0 : STATE);
            C.is("14: " + ago + " DAYS ago, stands", x.entry(0, 6), heard ? 0 : 1);
            C.is("14: " + ago + " DAYS ago, latest", x.latest(0), heard ? NONE : 0);
            C.is("14: " + ago + " DAYS ago, DUE", x.due(0, 10), heard ? 100 : 200);
        }
    }

    private static void p14OnTheLastDay() {
        FairRents x = new FairRents();
        x.home(0, 0, 5, 0);
        x.home(0, 0, 5, 0);
        x.let(0, 100);
        x.let(1, 100);
        for (int i = 0; i < 9; i++) {
            x.days(30);
        }
        x.days(24);
        x.ask(0);
        x.days(1);
        x.ask(1);
        x.days(5);
        C.is("14: TODAY", x.count(3), 300);
        C.is("14: of DAY 294", x.appeal(0), STATE);
        C.is("14: of DAY 295", x.appeal(1), 1);
    }

    /** "STATE: none stands" */
    private static void p14NoneStands() {
        FairRents x = new FairRents();
        x.home(0, 0, 5, 0);
        C.is("14: not let", x.appeal(0), STATE);
        x.let(0, 100);
        C.is("14: not asked", x.appeal(0), STATE);
        x.ask(0);
        C.is("14: asked", x.appeal(0), 0);
        C.is("14: unwound", x.appeal(0), STATE);
    }

    /** "that is UNWOUND (it does not stand, ever)" */
    private static void p14DoesNotStandEver() {
        FairRents x = let(0);
        x.ask(0);
        x.appeal(0);
        x.ask(0);
        x.days(6);
        x.let(0, 90);
        x.ask(0);
        x.appeal(0);
        x.days(30);
        C.is("14: entry 0", x.entry(0, 6), 0);
        C.is("14: entry 1", x.entry(1, 6), 1);
        C.is("14: entry 2", x.entry(2, 6), 0);
        C.is("14: DUE", x.due(0, 46), 90);
    }

    /** "no BAR of it is left" */
    private static void p14NoBarIsLeft() {
        FairRents x = let(60);
        x.ask(0);
        x.days(5);
        C.is("14: barred", x.open(0), 70);
        C.is("14: unwound", x.appeal(0), 0);
        C.is("14: open", x.open(0), 15);
        C.is("14: an ask is heard", x.ask(0), 1);
        C.is("14: barred anew", x.open(0), 75);
    }

    /** After an APPEAL the entry before is the latest: its own 5 DAYS go for it. */
    private static void p14TheOneBefore() {
        FairRents x = let(0);
        x.ask(0);
        x.days(1);
        x.ask(0);
        x.ask(0);
        x.days(4);
        x.ask(0);
        x.days(1);
        C.is("14: the latest", x.appeal(0), 3);
        C.is("14: 5 DAYS ago", x.appeal(0), 2);
        C.is("14: 5 DAYS ago too", x.appeal(0), 1);
        C.is("14: 6 DAYS ago", x.appeal(0), STATE);
        C.is("14: it stands", x.latest(0), 0);
    }

    private static void p14OfItsOwnHome() {
        FairRents x = let(0);
        x.home(0, 0, 5, 0);
        x.let(1, 100);
        x.ask(0);
        x.ask(1);
        C.is("14: HOME 0's, not the last one made", x.appeal(0), 0);
        C.is("14: HOME 0 has none", x.appeal(0), STATE);
        C.is("14: HOME 1's stands", x.entry(1, 6), 1);
        C.is("14: HOME 1's", x.appeal(1), 1);
    }

    /** The latest entry of the HOME may be one of a letting gone by. */
    private static void p14OfAnEarlierLetting() {
        FairRents x = let(60);
        x.ask(0);
        x.days(5);
        x.let(0, 150);
        C.is("14: barred", x.open(0), 70);
        C.is("14: unwound", x.appeal(0), 0);
        C.is("14: open", x.open(0), 15);
        C.is("14: DUE", x.due(0, 15), 150);
    }

    private static void p14NoSuchHome() {
        FairRents x = let(0);
        x.ask(0);
        C.is("14: the first one not there", x.appeal(1), BAD);
        for (int h : Check.outside(0, 7)) {
            C.is("14: HOME " + h, x.appeal(h), BAD);
        }
        C.is("14: the last one there", x.appeal(0), 0);
    }

    /** "Refused .. the first of these: BAD .., STATE": where nothing could be unwound either. */
    private static void p14BadBeforeState() {
        FairRents x = new FairRents();
        C.is("14: no HOME", x.appeal(0), BAD);
        x.home(0, 0, 5, 0);
        C.is("14: the first one not there", x.appeal(1), BAD);
        C.is("14: the last one there", x.appeal(0), STATE);
    }

    private static void p14RefusedChangesNothing() {
        Story.empty(C).refuses("appeal(0)", BAD, x -> x.appeal(0));
        Story busy = Story.busy(C);
        busy.refuses("appeal(-1)", BAD, x -> x.appeal(-1));
        busy.refuses("appeal(4)", BAD, x -> x.appeal(4));
        busy.refuses("appeal(1), none stands", STATE, x -> x.appeal(1));
        busy.refuses("appeal(3), not let", STATE, x -> x.appeal(3));
        Story full = Story.full(C);
        full.refuses("appeal(8)", BAD, x -> x.appeal(8));
        full.refuses("appeal(0), long ago", STATE, x -> x.appeal(0));
        full.refuses("appeal(7), never asked", STATE, x -> x.appeal(7));
        new Story(C, "6 DAYS on", x -> {
            Story.tellBusy(x);
            x.days(6);
        }).refuses("appeal(0)", STATE, x -> x.appeal(0));
    }

    /** HOME 2 of AREA 1, asked on DAY 13 as entry 0: HEADS 301, -150, -14. */
    private static FairRents registered() {
        FairRents x = new FairRents();
        x.home(0, 0, 1, 0);
        x.home(0, 2, 1, 0);
        x.home(0, 1, 5, 0);
        x.faults(2, 2);
        x.like(1, 50, 301);
        x.law(1, 0, 50, 0, 1, 7, 1, 0);
        x.days(13);
        x.let(2, 100);
        x.ask(2);
        return x;
    }

    /** "0 the HOME, 1 its DAY, 2 its RENT, 3 .. 5 HEAD 0 .. 2, 6 whether it stands" */
    private static void p15Whats() {
        FairRents x = registered();
        int[] due = {2, 13, 137, 301, -150, -14, 1};
        for (int what = 0; what < due.length; what++) {
            C.is("15: what " + what, x.entry(0, what), due[what]);
        }
        for (int what : Check.outside(0, 6)) {
            C.is("15: what " + what, x.entry(0, what), NO);
        }
        x.appeal(2);
        due[6] = 0;
        for (int what = 0; what < due.length; what++) {
            C.is("15: unwound, what " + what, x.entry(0, what), due[what]);
        }
    }

    private static void p15EntriesThereAre() {
        FairRents x = new FairRents();
        C.is("15: none yet", x.entry(0, 0), NO);
        x = let(0);
        for (int e = 0; e < 20; e++) {
            C.is("15: the first one not there, " + e, x.entry(e, 1), NO);
            x.ask(0);
            C.is("15: the last one there, " + e, x.entry(e, 1), 10 + e);
            x.days(1);
        }
        for (int e = 0; e < 20; e++) {
            C.is("15: DAY of entry " + e, x.entry(e, 1), 10 + e);
        }
        for (int e : Check.outside(0, 19)) {
            for (int what = 0; what <= 6; what++) {
                C.is("15: entry " + e + ", what " + what, x.entry(e, what), NO);
            }
        }
    }

    /** "entries stay as they are": FAULTS, LIKES, LAWS and lettings change later. */
    private static void p15StaysAsItIs() {
        FairRents x = registered();
        x.faults(2, 9);
        x.strike(0);
        x.like(1, 50, 4000);
        x.law(2, 90, 90, 90, 9, 20, 500, 60);
        x.days(10);
        x.let(2, 1);
        x.ask(2);
        int[] due = {2, 13, 137, 301, -150, -14, 1};
        for (int what = 0; what < due.length; what++) {
            C.is("15: later, what " + what, x.entry(0, what), due[what]);
        }
        int[] next = {2, 23, 220, 4000, -3600, -180, 1};
        for (int what = 0; what < next.length; what++) {
            C.is("15: the next, what " + what, x.entry(1, what), next[what]);
        }
    }

    private static void p15HeadsBelow0() {
        FairRents x = new FairRents();
        x.home(0, 0, 1, 0);
        x.like(0, 200, 1);
        x.let(0, 100);
        x.ask(0);
        int[] due = {0, 0, 1, -189, 0, 0, 1};
        for (int what = 0; what < due.length; what++) {
            C.is("15: below 0, what " + what, x.entry(0, what), due[what]);
        }
    }

    private static void p15RefusedChangesNothing() {
        Story.empty(C).refuses("entry(0, 0)", NO, x -> x.entry(0, 0));
        Story busy = Story.busy(C);
        busy.refuses("entry(-1, 0)", NO, x -> x.entry(-1, 0));
        busy.refuses("entry(5, 0)", NO, x -> x.entry(5, 0));
        busy.refuses("entry(0, -1)", NO, x -> x.entry(0, -1));
        busy.refuses("entry(0, 7)", NO, x -> x.entry(0, 7));
        Story.full(C).refuses("entry(20, 0)", NO, x -> x.entry(20, 0));
    }

    /** "The latest entry of a HOME that stands; NONE." */
    private static void p16None() {
        FairRents x = new FairRents();
        x.home(0, 0, 5, 0);
        C.is("16: not let", x.latest(0), NONE);
        x.let(0, 100);
        C.is("16: not asked", x.latest(0), NONE);
        x.ask(0);
        C.is("16: entry 0", x.latest(0), 0);
        x.appeal(0);
        C.is("16: unwound", x.latest(0), NONE);
        x.ask(0);
        C.is("16: entry 1", x.latest(0), 1);
    }

    private static void p16Latest() {
        FairRents x = let(0);
        x.home(0, 0, 5, 0);
        x.let(1, 100);
        for (int e = 0; e < 20; e++) {
            x.ask(e % 2);
            C.is("16: after ask " + e, x.latest(e % 2), e);
            C.is("16: the other HOME", x.latest(1 - e % 2), e == 0 ? NONE : e - 1);
        }
        for (int e = 19; e >= 0; e--) {
            x.appeal(e % 2);
            C.is("16: after appeal " + e, x.latest(e % 2), e < 2 ? NONE : e - 2);
        }
    }

    private static void p16NoSuchHome() {
        FairRents x = new FairRents();
        C.is("16: none yet", x.latest(0), BAD);
        x.home(0, 0, 5, 0);
        C.is("16: the last one there", x.latest(0), NONE);
        C.is("16: the first one not there", x.latest(1), BAD);
        for (int h : Check.outside(0, 7)) {
            C.is("16: HOME " + h, x.latest(h), BAD);
        }
    }

    private static void p16RefusedChangesNothing() {
        Story.empty(C).refuses("latest(0)", BAD, x -> x.latest(0));
        Story.busy(C).refuses("latest(4)", BAD, x -> x.latest(4));
        Story.busy(C).refuses("latest(-1)", BAD, x -> x.latest(-1));
        Story.full(C).refuses("latest(8)", BAD, x -> x.latest(8));
    }
}
