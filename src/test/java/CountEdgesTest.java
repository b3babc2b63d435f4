/** The edges of promises 20 and 21, and of what goes for all calls: the counts, THE TRACE, 512 calls. */
public final class CountEdgesTest {
    private static final Check C = new Check();
    private static final int BAD = FairRents.BAD;

    public static void main(String[] args) {
        p20Empty();
        p20Full();
        p20Whats();
        p20HomesThatAreLet();
        p20LawsThatWereTold();
        p20EntriesAndLikesThatCountNoMore();
        p20RefusedChangesNothing();
        p21NoneAtFirst();
        p21EachBodyAsOftenAsAsked();
        p21PointsAlone();
        p21AllOf512();
        constants();
        questionsChangeNothing();
        theLastOf512Calls();
        moreThan512CallsEnd();
        C.end();
    }

    private static void counts(String when, FairRents x, int... due) {
        for (int what = 0; what < due.length; what++) {
            C.is("20: " + when + ", count(" + what + ")", x.count(what), due[what]);
        }
    }

    private static void p20Empty() {
        counts("a new object", new FairRents(), 0, 0, 0, 0, 0, 0);
    }

    private static void p20Full() {
        FairRents x = new FairRents();
        Story.tellFull(x);
        counts("a full object", x, 8, 12, 20, 295, 8, 30);
        C.is("20: DAY 300", x.days(5), 300);
        counts("a full object's last DAY", x, 8, 12, 20, 300, 8, 30);
    }

    /** "0 HOMES, 1 LIKES, 2 entries, 3 TODAY, 4 HOMES that are let, 5 LAWS that were told" */
    private static void p20Whats() {
        FairRents x = new FairRents();
        Story.tellBusy(x);
        counts("a busy object", x, 4, 5, 5, 27, 3, 3);
        for (int what : Check.outside(0, 5)) {
            C.is("20: what " + what, x.count(what), BAD);
        }
    }

    private static void p20HomesThatAreLet() {
        FairRents x = new FairRents();
        for (int h = 0; h < 8; h++) {
            x.home(0, 0, 1, 0);
        }
        C.is("20: none let", x.count(4), 0);
        for (int h = 7; h >= 0; h--) {
            x.let(h, 1);
            C.is("20: let", x.count(4), 8 - h);
            x.let(h, 2);
            C.is("20: let again", x.count(4), 8 - h);
        }
        C.is("20: HOMES", x.count(0), 8);
    }

    private static void p20LawsThatWereTold() {
        FairRents x = new FairRents();
        x.law(0, 0, 0, 0, 1, 0, 1, 0);
        C.is("20: a refused one", x.count(5), 0);
        x.law(1, 0, 0, 0, 1, 0, 1, 0);
        C.is("20: one", x.count(5), 1);
        x.law(1, 0, 0, 0, 1, 0, 1, 0);
        C.is("20: one that took its place", x.count(5), 1);
        x.law(30, 0, 0, 0, 1, 0, 1, 0);
        C.is("20: two", x.count(5), 2);
        x.days(30);
        C.is("20: one that is in force", x.count(5), 2);
    }

    private static void p20EntriesAndLikesThatCountNoMore() {
        FairRents x = new FairRents();
        x.home(0, 0, 1, 0);
        x.like(0, 0, 1);
        x.strike(0);
        x.let(0, 1);
        x.ask(0);
        x.appeal(0);
        counts("struck and unwound", x, 1, 1, 1, 0, 1, 0);
    }

    private static void p20RefusedChangesNothing() {
        for (Story s : new Story[] {Story.empty(C), Story.busy(C), Story.full(C)}) {
            s.refuses("count(-1)", BAD, x -> x.count(-1));
            s.refuses("count(6)", BAD, x -> x.count(6));
        }
    }

    private static void p21NoneAtFirst() {
        FairRents x = new FairRents();
        C.is("21: at first", x.trace(), 0);
        x.points(0);
        C.is("21: of no HOME", x.trace(), 0);
        x.home(2, 0, 1, 0);
        C.is("21: not asked", x.trace(), 0);
    }

    /** "numbers in brackets come to THE TRACE as often as points() asks that body" */
    private static void p21EachBodyAsOftenAsAsked() {
        int[] marks = {1, 11, 111};
        for (int kind = 0; kind <= 2; kind++) {
            FairRents x = new FairRents();
            x.home(kind, 0, 1, 0);
            for (int times = 1; times <= 12; times++) {
                x.points(0);
                C.is("21: KIND " + kind + ", " + times + " times", x.trace(), times * marks[kind]);
            }
        }
    }

    private static void p21PointsAlone() {
        FairRents x = new FairRents();
        Story.tellBusy(x);
        C.is("21: one OLD asked", x.trace(), 111);
        x.head(0, 0, 0);
        x.head(2, 20, 3);
        x.days(30);
        x.ask(0);
        x.ask(2);
        x.due(0, 30);
        x.owed(2, 30);
        x.faults(2, 1);
        C.is("21: no other call asks it", x.trace(), 111);
        x.points(8);
        x.points(-1);
        C.is("21: nor a refused one", x.trace(), 111);
    }

    private static void p21AllOf512() {
        FairRents x = new FairRents();
        x.home(2, 0, 1, 0);
        for (int i = 0; i < 510; i++) {
            x.points(0);
        }
        C.is("21: 510 times", x.trace(), 510L * 111);
    }

    /** "BAD = -1, STATE = -2, FULL = -3, NONE = -9", "NO = -1000000000" */
    private static void constants() {
        C.is("BAD", FairRents.BAD, -1);
        C.is("STATE", FairRents.STATE, -2);
        C.is("FULL", FairRents.FULL, -3);
        C.is("NONE", FairRents.NONE, -9);
        C.is("NO", FairRents.NO, -1000000000);
    }

    /** Calls that only ask: whatever they answer, nothing changes. */
    private static void questionsChangeNothing() {
        Story busy = Story.busy(C);
        busy.refuses("force(27, 7)", 2, x -> x.force(27, 7));
        busy.refuses("head(0, 27, 4)", 2, x -> x.head(0, 27, 4));
        busy.refuses("open(0)", 35, x -> x.open(0));
        busy.refuses("entry(4, 1)", 27, x -> x.entry(4, 1));
        busy.refuses("latest(0)", 4, x -> x.latest(0));
        busy.refuses("due(1, 27)", 260, x -> x.due(1, 27));
        busy.refuses("owed(1, 27)", 260, x -> x.owed(1, 27));
        busy.refuses("count(3)", 27, x -> x.count(3));
        busy.refuses("trace()", 111, x -> x.trace());
    }

    /** "An object is used for at most 512 calls": the 512th is answered as the first. */
    private static void theLastOf512Calls() {
        FairRents x = new FairRents();
        x.home(0, 0, 5, 0);
        x.let(0, 100);
        for (int i = 0; i < 509; i++) {
            C.is("512: PAID", x.pay(0, 1), i + 1);
        }
        C.is("512: the last", x.owed(0, 0), 100 - 509);
        FairRents y = new FairRents();
        y.home(0, 0, 5, 0);
        for (int i = 0; i < 510; i++) {
            C.is("512: let again", y.let(0, 1 + i), 1);
        }
        C.is("512: the last letting", y.due(0, 0), 510);
    }

    /** What is answered then is free, but it is answered: no call ever throws or fails to end. */
    private static void moreThan512CallsEnd() {
        FairRents x = new FairRents();
        Story.tellFull(x);
        int[] odd = {Integer.MIN_VALUE, -1, 0, 7, 8, 300, Integer.MAX_VALUE};
        int calls = 0;
        for (int round = 0; round < 40; round++) {
            for (int a : odd) {
                for (int b : odd) {
                    x.home(a, b, a, b);
                    x.faults(a, b);
                    x.points(a);
                    x.law(a, b, a, b, a, b, a, b);
                    x.force(a, b);
                    x.like(a, b, a);
                    x.strike(a);
                    x.days(a);
                    x.head(a, b, round % 6);
                    x.let(a, b);
                    x.ask(a);
                    x.open(a);
                    x.appeal(a);
                    x.entry(a, b);
                    x.latest(a);
                    x.due(a, b);
                    x.pay(a, b);
                    x.owed(a, b);
                    x.count(a);
                    x.trace();
                    calls += 20;
                }
            }
        }
        C.is("more than 512 calls, all of them ended", calls, 40 * 49 * 20);
    }
}
