/** Promises 1 to 9: a new object, homes, laws, likes and the days. */
public final class HomesLawsLikesTest {
    private static final Check C = new Check();
    private static final int[] WRONG = {Integer.MIN_VALUE, -1, Integer.MAX_VALUE};

    public static void main(String[] args) {
        promise1NewObject();
        promise2Home();
        promise3Faults();
        promise4Points();
        promise5Law();
        promise5LawTakesPlace();
        promise6Force();
        promise7Like();
        promise8Strike();
        promise9Days();
        C.end();
    }

    private static void promise1NewObject() {
        FairRents x = new FairRents();
        for (int what = 0; what <= 5; what++) {
            C.is("1: count(" + what + ")", x.count(what), 0);
        }
        C.is("1: trace", x.trace(), 0);
        int[] first = {0, 0, 0, 1, 0, 500, 20, FairRents.NONE};
        for (int what = 0; what < first.length; what++) {
            C.is("1: force(0, " + what + ")", x.force(0, what), first[what]);
            C.is("1: force(400, " + what + ")", x.force(400, what), first[what]);
        }
        FairRents other = new FairRents();
        other.home(0, 0, 1, 0);
        other.days(7);
        C.is("1: objects share no homes", x.count(0), 0);
        C.is("1: objects share no day", x.count(3), 0);
    }

    private static void promise2Home() {
        FairRents x = new FairRents();
        for (int w : WRONG) {
            C.is("2: kind " + w, x.home(w, 0, 1, 0), FairRents.BAD);
            C.is("2: area " + w, x.home(0, w, 1, 0), FairRents.BAD);
            C.is("2: rooms " + w, x.home(0, 0, w, 0), FairRents.BAD);
            C.is("2: floor " + w, x.home(0, 0, 1, w), FairRents.BAD);
        }
        C.is("2: kind 3", x.home(3, 0, 1, 0), FairRents.BAD);
        C.is("2: area 3", x.home(0, 3, 1, 0), FairRents.BAD);
        C.is("2: rooms 0", x.home(0, 0, 0, 0), FairRents.BAD);
        C.is("2: rooms 10", x.home(0, 0, 10, 0), FairRents.BAD);
        C.is("2: floor 10", x.home(0, 0, 1, 10), FairRents.BAD);
        C.is("2: nothing changed", x.count(0), 0);
        for (int i = 0; i < 8; i++) {
            C.is("2: home " + i, x.home(i % 3, i % 3, i % 2 == 0 ? 1 : 9, i % 2 == 0 ? 0 : 9), i);
        }
        C.is("2: the ninth", x.home(0, 0, 1, 0), FairRents.FULL);
        C.is("2: BAD before FULL", x.home(3, 0, 1, 0), FairRents.BAD);
        C.is("2: still eight", x.count(0), 8);
        C.is("2: the eighth is there", x.points(7), 90 - 2 * 9);
        C.is("2: a ninth is not", x.points(8), FairRents.BAD);
    }

    private static void promise3Faults() {
        FairRents x = new FairRents();
        C.is("3: no home", x.faults(0, 0), FairRents.BAD);
        x.home(0, 1, 5, 0);
        x.home(0, 1, 5, 0);
        x.like(1, 50, 300);
        x.law(1, 0, 0, 0, 1, 7, 500, 20);
        C.is("3: 0 at first", x.faults(0, 9), 0);
        for (int w : WRONG) {
            C.is("3: n " + w, x.faults(0, w), FairRents.BAD);
            C.is("3: home " + w, x.faults(w, 1), FairRents.BAD);
        }
        C.is("3: n 10", x.faults(0, 10), FairRents.BAD);
        C.is("3: home 2", x.faults(2, 1), FairRents.BAD);
        C.is("3: kept when refused", x.faults(0, 4), 9);
        C.is("3: the other home", x.faults(1, 0), 0);
        x.days(12);
        x.let(0, 100);
        x.ask(0);
        C.is("3: head 2", x.head(0, 12, 2), -28);
        C.is("3: what they were", x.faults(0, 1), 4);
        C.is("3: days gone by go by now", x.head(0, 10, 2), -7);
        C.is("3: entries stay", x.entry(0, 5), -28);
        C.is("3: an entry's rent stays", x.entry(0, 2), 272);
    }

    private static void promise4Points() {
        FairRents x = new FairRents();
        C.is("4: no home", x.points(0), FairRents.BAD);
        x.home(0, 0, 9, 9);
        x.home(1, 0, 9, 9);
        x.home(2, 0, 9, 9);
        x.home(2, 0, 1, 6);
        x.home(2, 0, 1, 8);
        x.home(2, 0, 1, 3);
        x.home(1, 0, 1, 9);
        C.is("4: PLAIN", x.points(0), 90);
        C.is("4: FLAT", x.points(1), 72);
        C.is("4: OLD", x.points(2), 54);
        C.is("4: OLD of -2: a quarter rounded down is -1", x.points(3), -1);
        C.is("4: OLD of -6: a quarter rounded down is -2", x.points(4), -4);
        C.is("4: OLD of 4", x.points(5), 3);
        C.is("4: FLAT below 0", x.points(6), -8);
        C.is("4: home 7", x.points(7), FairRents.BAD);
        for (int w : WRONG) {
            C.is("4: home " + w, x.points(w), FairRents.BAD);
        }
    }

    private static void promise5Law() {
        FairRents x = new FairRents();
        int[] least = {1, 0, 0, 0, 1, 0, 1, 0};
        int[] most = {30, 90, 90, 90, 9, 20, 500, 60};
        for (int i = 0; i < 8; i++) {
            C.is("5: below, number " + i, told(x, least, i, i == 0 ? -1 : least[i] - 1), FairRents.BAD);
            C.is("5: above, number " + i, told(x, most, i, most[i] + 1), FairRents.BAD);
            for (int w : WRONG) {
                C.is("5: number " + i + " is " + w, told(x, most, i, w), FairRents.BAD);
            }
        }
        C.is("5: none told", x.count(5), 0);
        C.is("5: YEAR 0 has begun", told(x, most, 0, 0), FairRents.STATE);
        C.is("5: BAD before STATE", x.law(0, 0, 0, 0, 0, 0, 1, 0), FairRents.BAD);
        C.is("5: all the least", told(x, least, 0, 1), 1);
        C.is("5: all the most", told(x, most, 0, 30), 1);
        C.is("5: two told", x.count(5), 2);
        x.days(19);
        C.is("5: YEAR 1 has begun", told(x, least, 0, 1), FairRents.STATE);
        C.is("5: YEAR 2 has not", told(x, least, 0, 2), 1);
        x.days(1);
        C.is("5: YEAR 2 has, on its first DAY", told(x, least, 0, 2), FairRents.STATE);
    }

    private static int told(FairRents x, int[] law, int changed, int number) {
        int[] n = law.clone();
        n[changed] = number;
        return x.law(n[0], n[1], n[2], n[3], n[4], n[5], n[6], n[7]);
    }

    private static void promise5LawTakesPlace() {
        FairRents x = new FairRents();
        x.law(4, 1, 1, 1, 1, 1, 1, 1);
        x.law(2, 2, 2, 2, 2, 2, 2, 2);
        x.law(4, 3, 3, 3, 3, 3, 3, 3);
        C.is("5: told again is one", x.count(5), 2);
        C.is("5: takes its place", x.force(40, 0), 3);
        C.is("5: the earlier one till then", x.force(39, 0), 2);
        C.is("5: a refused one changes nothing", x.law(4, 91, 0, 0, 1, 0, 1, 0), FairRents.BAD);
        C.is("5: as it was", x.force(400, 0), 3);
    }

    private static void promise6Force() {
        FairRents x = new FairRents();
        x.law(30, 11, 12, 13, 4, 15, 16, 17);
        x.law(3, 21, 22, 23, 2, 5, 26, 27);
        int[] three = {21, 22, 23, 2, 5, 26, 27, 3};
        int[] thirty = {11, 12, 13, 4, 15, 16, 17, 30};
        for (int what = 0; what < 8; what++) {
            C.is("6: DAY 30, " + what, x.force(30, what), three[what]);
            C.is("6: DAY 299, " + what, x.force(299, what), three[what]);
            C.is("6: DAY 300, " + what, x.force(300, what), thirty[what]);
            C.is("6: DAY 400, " + what, x.force(400, what), thirty[what]);
        }
        C.is("6: DAY 29", x.force(29, 7), FairRents.NONE);
        C.is("6: DAY 401", x.force(401, 0), FairRents.BAD);
        C.is("6: what 8", x.force(0, 8), FairRents.BAD);
        for (int w : WRONG) {
            C.is("6: DAY " + w, x.force(w, 0), FairRents.BAD);
            C.is("6: what " + w, x.force(0, w), FairRents.BAD);
        }
    }

    private static void promise7Like() {
        FairRents x = new FairRents();
        for (int w : WRONG) {
            C.is("7: area " + w, x.like(w, 0, 1), FairRents.BAD);
            C.is("7: points " + w, x.like(0, w, 1), FairRents.BAD);
            C.is("7: rent " + w, x.like(0, 0, w), FairRents.BAD);
        }
        C.is("7: area 3", x.like(3, 0, 1), FairRents.BAD);
        C.is("7: points 201", x.like(0, 201, 1), FairRents.BAD);
        C.is("7: rent 0", x.like(0, 0, 0), FairRents.BAD);
        C.is("7: rent 5001", x.like(0, 0, 5001), FairRents.BAD);
        C.is("7: none told", x.count(1), 0);
        C.is("7: the least", x.like(0, 0, 1), 0);
        C.is("7: the most", x.like(2, 200, 5000), 1);
        x.days(5);
        C.is("7: from TODAY on", x.like(1, 10, 100), 2);
        x.home(0, 1, 1, 0);
        C.is("7: not before", x.head(0, 4, 4), 0);
        C.is("7: on its DAY", x.head(0, 5, 4), 1);
        C.is("7: and after", x.head(0, 300, 4), 1);
        for (int i = 3; i < 12; i++) {
            C.is("7: like " + i, x.like(0, 0, 1), i);
        }
        C.is("7: the thirteenth", x.like(0, 0, 1), FairRents.FULL);
        C.is("7: BAD before FULL", x.like(3, 0, 1), FairRents.BAD);
        x.strike(0);
        C.is("7: a struck one keeps its place", x.like(0, 0, 1), FairRents.FULL);
        C.is("7: twelve", x.count(1), 12);
    }

    private static void promise8Strike() {
        FairRents x = new FairRents();
        C.is("8: no like", x.strike(0), FairRents.BAD);
        x.home(0, 0, 5, 0);
        x.like(0, 50, 100);
        x.like(0, 50, 300);
        x.days(10);
        C.is("8: both", x.head(0, 10, 4), 2);
        C.is("8: strike", x.strike(0), 1);
        C.is("8: again", x.strike(0), FairRents.STATE);
        C.is("8: on no DAY, TODAY", x.head(0, 10, 0), 300);
        C.is("8: on no DAY gone by", x.head(0, 0, 0), 300);
        C.is("8: nor counted", x.head(0, 0, 4), 1);
        C.is("8: like 2", x.strike(2), FairRents.BAD);
        C.is("8: like 12", x.strike(12), FairRents.BAD);
        for (int w : WRONG) {
            C.is("8: like " + w, x.strike(w), FairRents.BAD);
        }
        C.is("8: the other", x.strike(1), 1);
        C.is("8: none left", x.head(0, 10, 0), 0);
        for (int i = 2; i < 12; i++) {
            x.like(0, 50, 100);
        }
        C.is("8: the last of twelve", x.strike(11), 1);
        C.is("8: nine are left", x.head(0, 10, 4), 9);
    }

    private static void promise9Days() {
        FairRents x = new FairRents();
        for (int w : WRONG) {
            C.is("9: " + w, x.days(w), FairRents.BAD);
        }
        C.is("9: 0", x.days(0), FairRents.BAD);
        C.is("9: 31", x.days(31), FairRents.BAD);
        C.is("9: still 0", x.count(3), 0);
        C.is("9: 1", x.days(1), 1);
        for (int day = 31; day < 300; day += 30) {
            C.is("9: 30", x.days(30), day);
        }
        C.is("9: 301", x.days(30), FairRents.STATE);
        C.is("9: nothing changes", x.count(3), 271);
        C.is("9: 300", x.days(29), 300);
        C.is("9: no further", x.days(1), FairRents.STATE);
        C.is("9: BAD before STATE", x.days(31), FairRents.BAD);
    }
}
