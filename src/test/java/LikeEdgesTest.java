/** The edges of promises 7 to 9: likes, striking them, and the days. */
public final class LikeEdgesTest {
    private static final Check C = new Check();
    private static final int BAD = FairRents.BAD, STATE = FairRents.STATE, FULL = FairRents.FULL;

    public static void main(String[] args) {
        p7Areas();
        p7Points();
        p7Rents();
        p7RefusedNumbersChangeNothing();
        p7TwelveAtMost();
        p7StruckOnesKeepTheirPlace();
        p7BadBeforeFull();
        p7FromTodayOn();
        p7OnTheLastDay();
        p8OnNoDay();
        p8Already();
        p8NoSuchLike();
        p8EachOfTwelve();
        p8RefusedChangesNothing();
        p9OneToThirty();
        p9Refused();
        p9UpTo300();
        p9Above300();
        p9BadBeforeState();
        p9RefusedChangesNothing();
        C.end();
    }

    /** What a LIKE gives for a HOME of 50 POINTS in its AREA: HEAD 0, with WEIGHT 1. */
    private static void given(int area, int points, int rent) {
        FairRents x = new FairRents();
        for (int a = 0; a <= 2; a++) {
            x.home(0, a, 5, 0);
        }
        String like = "7: like(" + area + ", " + points + ", " + rent + ")";
        C.is(like, x.like(area, points, rent), 0);
        for (int a = 0; a <= 2; a++) {
            C.is(like + " counts in " + a, x.head(a, 0, 4), a == area ? 1 : 0);
            C.is(like + " gives in " + a, x.head(a, 0, 0), a == area ? rent + 50 - points : 0);
        }
    }

    /** "agreed in an AREA" (0 .. 2) */
    private static void p7Areas() {
        for (int area = 0; area <= 2; area++) {
            given(area, 40, 100);
        }
        FairRents x = new FairRents();
        for (int area : Check.outside(0, 2)) {
            C.is("7: AREA " + area, x.like(area, 40, 100), BAD);
        }
        C.is("7: none", x.count(1), 0);
    }

    /** "for so many POINTS (0 .. 200)" */
    private static void p7Points() {
        for (int points : new int[] {0, 1, 49, 50, 51, 199, 200}) {
            given(1, points, 1000);
        }
        FairRents x = new FairRents();
        for (int points : Check.outside(0, 200)) {
            C.is("7: POINTS " + points, x.like(0, points, 100), BAD);
        }
        C.is("7: none", x.count(1), 0);
    }

    /** "a RENT (1 .. 5000)" */
    private static void p7Rents() {
        for (int rent : new int[] {1, 2, 4999, 5000}) {
            given(2, 50, rent);
        }
        FairRents x = new FairRents();
        for (int rent : Check.outside(1, 5000)) {
            C.is("7: RENT " + rent, x.like(0, 50, rent), BAD);
        }
        C.is("7: none", x.count(1), 0);
    }

    private static void p7RefusedNumbersChangeNothing() {
        for (Story s : new Story[] {Story.empty(C), Story.busy(C)}) {
            s.refuses("like(-1, 0, 1)", BAD, x -> x.like(-1, 0, 1));
            s.refuses("like(3, 0, 1)", BAD, x -> x.like(3, 0, 1));
            s.refuses("like(0, -1, 1)", BAD, x -> x.like(0, -1, 1));
            s.refuses("like(0, 201, 1)", BAD, x -> x.like(0, 201, 1));
            s.refuses("like(0, 0, 0)", BAD, x -> x.like(0, 0, 0));
            s.refuses("like(0, 0, 5001)", BAD, x -> x.like(0, 0, 5001));
        }
    }

    /** "LIKES (12 at most)" */
    private static void p7TwelveAtMost() {
        FairRents x = new FairRents();
        x.home(0, 0, 5, 0);
        for (int l = 0; l < 12; l++) {
            C.is("7: the number of LIKE " + l, x.like(0, 50, 100), l);
            C.is("7: so many", x.count(1), l + 1);
            C.is("7: so many count", x.head(0, 0, 4), l + 1);
        }
        C.is("7: the thirteenth", x.like(0, 50, 100), FULL);
        C.is("7: of another AREA", x.like(1, 50, 100), FULL);
        C.is("7: twelve", x.count(1), 12);
        C.is("7: twelve count", x.head(0, 0, 4), 12);
        Story.full(C).refuses("a thirteenth like", FULL, y -> y.like(0, 0, 1));
    }

    /** A LIKE that is struck is one still: it keeps its number and its place among the 12. */
    private static void p7StruckOnesKeepTheirPlace() {
        FairRents x = new FairRents();
        for (int l = 0; l < 11; l++) {
            x.like(0, 50, 100);
        }
        x.strike(10);
        C.is("7: the twelfth's number", x.like(0, 50, 100), 11);
        x.strike(0);
        C.is("7: the thirteenth", x.like(0, 50, 100), FULL);
        C.is("7: twelve", x.count(1), 12);
    }

    /** "Refused .. the first of these: BAD .., FULL." */
    private static void p7BadBeforeFull() {
        Story full = Story.full(C);
        full.refuses("like(3, 0, 1)", BAD, x -> x.like(3, 0, 1));
        full.refuses("like(0, 201, 1)", BAD, x -> x.like(0, 201, 1));
        full.refuses("like(0, 0, 0)", BAD, x -> x.like(0, 0, 0));
    }

    /** "A LIKE, from TODAY on" */
    private static void p7FromTodayOn() {
        FairRents x = new FairRents();
        x.home(0, 0, 5, 0);
        x.like(0, 50, 100);
        x.days(17);
        x.like(0, 50, 50);
        C.is("7: told on DAY 0", x.head(0, 0, 4), 1);
        C.is("7: the DAY before", x.head(0, 16, 4), 1);
        C.is("7: HEAD 0 the DAY before", x.head(0, 16, 0), 100);
        C.is("7: on its DAY", x.head(0, 17, 4), 2);
        C.is("7: HEAD 0 on its DAY", x.head(0, 17, 0), 50);
        C.is("7: the DAY after", x.head(0, 18, 4), 2);
        C.is("7: DAY 300", x.head(0, 300, 4), 2);
    }

    private static void p7OnTheLastDay() {
        FairRents x = new FairRents();
        x.home(0, 0, 5, 0);
        for (int i = 0; i < 10; i++) {
            x.days(30);
        }
        C.is("7: on DAY 300", x.like(0, 50, 100), 0);
        C.is("7: DAY 299", x.head(0, 299, 4), 0);
        C.is("7: DAY 300", x.head(0, 300, 4), 1);
    }

    /** "A LIKE does not count any more, on no DAY: 1." */
    private static void p8OnNoDay() {
        FairRents x = new FairRents();
        x.home(0, 0, 5, 0);
        x.like(0, 50, 100);
        x.days(5);
        x.like(0, 50, 200);
        x.days(5);
        C.is("8: struck", x.strike(0), 1);
        C.is("8: DAY 0", x.head(0, 0, 4), 0);
        C.is("8: the DAY before", x.head(0, 9, 0), 200);
        C.is("8: TODAY", x.head(0, 10, 0), 200);
        C.is("8: a DAY to come", x.head(0, 300, 4), 1);
        C.is("8: the last one", x.strike(1), 1);
        C.is("8: none counts", x.head(0, 300, 4), 0);
        C.is("8: HEAD 0 of none", x.head(0, 10, 0), 0);
        C.is("8: LIKES still", x.count(1), 2);
    }

    /** "STATE: it does not already." */
    private static void p8Already() {
        FairRents x = new FairRents();
        x.like(0, 50, 100);
        C.is("8: struck", x.strike(0), 1);
        C.is("8: again", x.strike(0), STATE);
        x.days(30);
        C.is("8: and later", x.strike(0), STATE);
        C.is("8: BAD, not STATE", x.strike(1), BAD);
    }

    /** "BAD (.. there is no such thing)" */
    private static void p8NoSuchLike() {
        FairRents x = new FairRents();
        C.is("8: none yet", x.strike(0), BAD);
        x.like(0, 50, 100);
        x.like(0, 50, 100);
        C.is("8: the first one not there", x.strike(2), BAD);
        C.is("8: the last one there", x.strike(1), 1);
        for (int like : Check.outside(0, 11)) {
            C.is("8: LIKE " + like, x.strike(like), BAD);
        }
    }

    private static void p8EachOfTwelve() {
        FairRents x = new FairRents();
        x.home(0, 0, 5, 0);
        for (int l = 0; l < 12; l++) {
            x.like(0, 50, 1000 - l);
        }
        C.is("8: LIKE 12", x.strike(12), BAD);
        for (int l = 11; l >= 1; l--) {
            C.is("8: LIKE " + l, x.strike(l), 1);
            C.is("8: so many count", x.head(0, 0, 4), l);
            C.is("8: HEAD 0, the middle or the lower", x.head(0, 0, 0), 1000 - l / 2);
        }
    }

    private static void p8RefusedChangesNothing() {
        Story.empty(C).refuses("strike(0)", BAD, x -> x.strike(0));
        Story busy = Story.busy(C);
        busy.refuses("strike(3), struck", STATE, x -> x.strike(3));
        busy.refuses("strike(5), not there", BAD, x -> x.strike(5));
        busy.refuses("strike(-1)", BAD, x -> x.strike(-1));
        Story.full(C).refuses("strike(12)", BAD, x -> x.strike(12));
    }

    /** "TODAY is so many DAYS (1 .. 30) later: it." */
    private static void p9OneToThirty() {
        for (int n = 1; n <= 30; n++) {
            FairRents x = new FairRents();
            C.is("9: days(" + n + ")", x.days(n), n);
            C.is("9: TODAY", x.count(3), n);
            C.is("9: and again", x.days(n), 2 * n);
        }
    }

    private static void p9Refused() {
        FairRents x = new FairRents();
        x.days(4);
        for (int n : Check.outside(1, 30)) {
            C.is("9: days(" + n + ")", x.days(n), BAD);
            C.is("9: TODAY after days(" + n + ")", x.count(3), 4);
        }
    }

    /** A new object on this DAY, which is 30 at least. */
    private static FairRents on(int day) {
        FairRents x = new FairRents();
        int left = day;
        for (; left > 30; left -= 30) {
            x.days(30);
        }
        x.days(left);
        return x;
    }

    /** "STATE: it would be above 300": 300 itself is not. */
    private static void p9UpTo300() {
        C.is("9: 270 and 30", on(270).days(30), 300);
        C.is("9: 271 and 29", on(271).days(29), 300);
        C.is("9: 299 and 1", on(299).days(1), 300);
        C.is("9: 298 and 1", on(298).days(1), 299);
        C.is("9: TODAY", on(300).count(3), 300);
    }

    /** "STATE: it would be above 300" */
    private static void p9Above300() {
        C.is("9: 271 and 30", on(271).days(30), STATE);
        C.is("9: 299 and 2", on(299).days(2), STATE);
        C.is("9: 300 and 1", on(300).days(1), STATE);
        C.is("9: 300 and 30", on(300).days(30), STATE);
        FairRents x = on(295);
        C.is("9: 295 and 6", x.days(6), STATE);
        C.is("9: still 295", x.count(3), 295);
        C.is("9: 295 and 5", x.days(5), 300);
    }

    /** "Refused .. the first of these: BAD .., STATE" */
    private static void p9BadBeforeState() {
        FairRents x = on(300);
        for (int n : Check.outside(1, 30)) {
            C.is("9: DAY 300, days(" + n + ")", x.days(n), BAD);
        }
    }

    private static void p9RefusedChangesNothing() {
        for (Story s : new Story[] {Story.empty(C), Story.busy(C), Story.full(C)}) {
            s.refuses("days(0)", BAD, x -> x.days(0));
            s.refuses("days(-1)", BAD, x -> x.days(-1));
            s.refuses("days(31)", BAD, x -> x.days(31));
        }
        Story.full(C).refuses("days(6)", STATE, x -> x.days(6));
        new Story(C, "DAY 300", x -> {
            Story.tellFull(x);
            x.days(5);
        }).refuses("days(1)", STATE, x -> x.days(1));
    }
}
