/** The edges of promises 5 and 6: laws and what is in force. */
public final class LawEdgesTest {
    private static final Check C = new Check();
    private static final int BAD = FairRents.BAD, STATE = FairRents.STATE, NONE = FairRents.NONE;
    private static final String[] NAMES = {"YEAR", "SCARCITY of AREA 0", "SCARCITY of AREA 1",
        "SCARCITY of AREA 2", "WEIGHT", "LESS", "STEP", "BAR"};
    private static final int[] MIDDLE = {7, 10, 20, 30, 4, 5, 60, 8};
    private static final int[] FIRST = {0, 0, 0, 1, 0, 500, 20, NONE};

    public static void main(String[] args) {
        p5Year();
        p5Scarcity();
        p5Weight();
        p5Less();
        p5Step();
        p5Bar();
        p5YearHasBegun();
        p5EachYearBeginsOnItsFirstDay();
        p5BadBeforeState();
        p5RefusedChangesNothing();
        p5ToldAgainTakesItsPlace();
        p5LawForEachYear();
        p6FirstLawAtFirst();
        p6FromTheYearsFirstDay();
        p6TillAnotherOnes();
        p6ToldInAnyOrder();
        p6Days();
        p6Whats();
        p6YearToldFor();
        p6RefusedChangesNothing();
        C.end();
    }

    private static int told(FairRents x, int[] law) {
        return x.law(law[0], law[1], law[2], law[3], law[4], law[5], law[6], law[7]);
    }

    private static int[] with(int at, int number) {
        int[] law = MIDDLE.clone();
        law[at] = number;
        return law;
    }

    /** The number at this place is taken from least up to most, as it is told, and no further. */
    private static void range(int at, int least, int most) {
        for (int number : new int[] {least, least + 1, most - 1, most}) {
            FairRents x = new FairRents();
            C.is("5: " + NAMES[at] + " " + number, told(x, with(at, number)), 1);
            for (int what = 0; what < 7; what++) {
                int due = what + 1 == at ? number : MIDDLE[what + 1];
                C.is("5: " + NAMES[at] + " " + number + ", in force " + what, x.force(70, what), due);
            }
        }
        FairRents x = new FairRents();
        for (int number : Check.outside(least, most)) {
            C.is("5: " + NAMES[at] + " " + number, told(x, with(at, number)), BAD);
        }
        C.is("5: none told, " + NAMES[at], x.count(5), 0);
        C.is("5: none in force, " + NAMES[at], x.force(400, 7), NONE);
    }

    /** "A LAW of a YEAR (0 .. 30)" */
    private static void p5Year() {
        FairRents x = new FairRents();
        for (int year : Check.outside(0, 30)) {
            C.is("5: YEAR " + year, told(x, with(0, year)), BAD);
        }
        C.is("5: none told", x.count(5), 0);
        C.is("5: YEAR 0 is a YEAR, but has begun", told(x, with(0, 0)), STATE);
        C.is("5: YEAR 1", told(x, with(0, 1)), 1);
        C.is("5: YEAR 29", told(x, with(0, 29)), 1);
        C.is("5: YEAR 30", told(x, with(0, 30)), 1);
        C.is("5: three told", x.count(5), 3);
    }

    /** "for each AREA a SCARCITY (0 .. 90 hundredths)" */
    private static void p5Scarcity() {
        range(1, 0, 90);
        range(2, 0, 90);
        range(3, 0, 90);
    }

    /** "WEIGHT, what a POINT is worth (1 .. 9)" */
    private static void p5Weight() {
        range(4, 1, 9);
    }

    /** "LESS, what a FAULT lowers (0 .. 20)" */
    private static void p5Less() {
        range(5, 0, 20);
    }

    /** "STEP, by how much a rent may rise in a YEAR (1 .. 500)" */
    private static void p5Step() {
        range(6, 1, 500);
    }

    /** "BAR, for how many DAYS no other ask is heard (0 .. 60)" */
    private static void p5Bar() {
        range(7, 0, 60);
    }

    /** "STATE: the YEAR has begun." */
    private static void p5YearHasBegun() {
        FairRents x = new FairRents();
        x.days(9);
        C.is("5: YEAR 1 the DAY before", told(x, with(0, 1)), 1);
        C.is("5: YEAR 0 on its last DAY", told(x, with(0, 0)), STATE);
        x.days(1);
        C.is("5: YEAR 1 on its first DAY", told(x, with(0, 1)), STATE);
        C.is("5: YEAR 2 then", told(x, with(0, 2)), 1);
        x.days(9);
        C.is("5: YEAR 1 on its last DAY", told(x, with(0, 1)), STATE);
        C.is("5: YEAR 2 the DAY before", told(x, with(0, 2)), 1);
        x.days(1);
        C.is("5: YEAR 1 gone by", told(x, with(0, 1)), STATE);
        C.is("5: YEAR 2 on its first DAY", told(x, with(0, 2)), STATE);
    }

    private static void p5EachYearBeginsOnItsFirstDay() {
        FairRents x = new FairRents();
        for (int year = 1; year <= 30; year++) {
            x.days(9);
            C.is("5: the DAY before YEAR " + year, told(x, with(0, year)), 1);
            C.is("5: TODAY", x.days(1), 10 * year);
            C.is("5: the first DAY of YEAR " + year, told(x, with(0, year)), STATE);
        }
        for (int year = 0; year <= 30; year++) {
            C.is("5: DAY 300, YEAR " + year, told(x, with(0, year)), STATE);
        }
        C.is("5: DAY 300, YEAR 31", told(x, with(0, 31)), BAD);
    }

    /** "Refused .. the first of these: BAD .., STATE": each number of a LAW for YEAR 0. */
    private static void p5BadBeforeState() {
        int[] most = {30, 90, 90, 90, 9, 20, 500, 60};
        FairRents x = new FairRents();
        for (int at = 1; at < 8; at++) {
            int[] law = with(at, most[at] + 1);
            law[0] = 0;
            C.is("5: YEAR 0 with " + NAMES[at] + " too large", told(x, law), BAD);
            law[at] = -1;
            C.is("5: YEAR 0 with " + NAMES[at] + " too small", told(x, law), BAD);
        }
    }

    private static void p5RefusedChangesNothing() {
        int[] most = {30, 90, 90, 90, 9, 20, 500, 60};
        int[] least = {0, 0, 0, 0, 1, 0, 1, 0};
        Story busy = Story.busy(C);
        for (int at = 0; at < 8; at++) {
            int[] above = with(at, most[at] + 1);
            int[] below = with(at, least[at] - 1);
            busy.refuses(NAMES[at] + " too large", BAD, x -> told(x, above));
            busy.refuses(NAMES[at] + " too small", BAD, x -> told(x, below));
        }
        busy.refuses("YEAR 0", STATE, x -> told(x, with(0, 0)));
        busy.refuses("YEAR 1, told and gone by", STATE, x -> told(x, with(0, 1)));
        busy.refuses("YEAR 2, begun", STATE, x -> told(x, with(0, 2)));
        Story.empty(C).refuses("YEAR 0", STATE, x -> told(x, with(0, 0)));
        Story.full(C).refuses("YEAR 29", STATE, x -> told(x, with(0, 29)));
    }

    /** "told again for one YEAR: it takes its place" */
    private static void p5ToldAgainTakesItsPlace() {
        FairRents x = new FairRents();
        int[] again = {7, 1, 2, 3, 5, 6, 7, 9};
        C.is("5: told", told(x, MIDDLE), 1);
        C.is("5: told again", told(x, again), 1);
        for (int what = 0; what < 7; what++) {
            C.is("5: in force " + what, x.force(70, what), again[what + 1]);
        }
        C.is("5: one LAW", x.count(5), 1);
        C.is("5: the same again", told(x, again), 1);
        C.is("5: still one", x.count(5), 1);
        x.law(6, 0, 0, 0, 1, 0, 1, 0);
        C.is("5: a later YEAR's keeps its place", x.force(70, 0), 1);
        C.is("5: an earlier YEAR's", x.force(69, 0), 0);
    }

    /** As many as there can be: YEARS 1 .. 30, each with its own numbers. */
    private static void p5LawForEachYear() {
        FairRents x = new FairRents();
        for (int year = 30; year >= 1; year--) {
            C.is("5: YEAR " + year, x.law(year, year, 90 - year, year, 1, 0, 10 * year, 60), 1);
        }
        C.is("5: thirty", x.count(5), 30);
        for (int year = 1; year <= 30; year++) {
            C.is("5: first DAY of " + year, x.force(10 * year, 7), year);
            C.is("5: last DAY of " + year, x.force(10 * year + 9, 7), year);
            C.is("5: its STEP, " + year, x.force(10 * year + 9, 5), 10 * year);
        }
        C.is("5: told again", x.law(30, 0, 0, 0, 1, 0, 1, 0), 1);
        C.is("5: still thirty", x.count(5), 30);
    }

    /** "In force at first: SCARCITY 0, WEIGHT 1, LESS 0, STEP 500, BAR 20." */
    private static void p6FirstLawAtFirst() {
        FairRents x = new FairRents();
        told(x, with(0, 30));
        for (int what = 0; what < 8; what++) {
            C.is("6: DAY 0, " + what, x.force(0, what), FIRST[what]);
            C.is("6: DAY 299, " + what, x.force(299, what), FIRST[what]);
        }
    }

    /** "It is in force from that YEAR's first DAY on": "YEAR y is DAYS 10 y .. 10 y + 9." */
    private static void p6FromTheYearsFirstDay() {
        for (int year = 1; year <= 30; year++) {
            FairRents x = new FairRents();
            told(x, with(0, year));
            for (int what = 0; what < 8; what++) {
                C.is("6: the DAY before YEAR " + year, x.force(10 * year - 1, what), FIRST[what]);
                int due = what == 7 ? year : MIDDLE[what + 1];
                C.is("6: first DAY of YEAR " + year, x.force(10 * year, what), due);
                C.is("6: last DAY of YEAR " + year, x.force(10 * year + 9, what), due);
                C.is("6: DAY 400, from YEAR " + year, x.force(400, what), due);
            }
        }
    }

    /** "till another one's (told for a later YEAR ..)" */
    private static void p6TillAnotherOnes() {
        FairRents x = new FairRents();
        x.law(3, 1, 1, 1, 1, 1, 1, 1);
        x.law(8, 2, 2, 2, 2, 2, 2, 2);
        x.law(9, 3, 3, 3, 3, 3, 3, 3);
        for (int what = 0; what < 7; what++) {
            C.is("6: DAY 29", x.force(29, what), FIRST[what]);
            C.is("6: DAY 30", x.force(30, what), 1);
            C.is("6: DAY 79", x.force(79, what), 1);
            C.is("6: DAY 80", x.force(80, what), 2);
            C.is("6: DAY 89", x.force(89, what), 2);
            C.is("6: DAY 90", x.force(90, what), 3);
            C.is("6: DAY 400", x.force(400, what), 3);
        }
    }

    /** The later YEAR is the later LAW, whichever was told first. */
    private static void p6ToldInAnyOrder() {
        FairRents x = new FairRents();
        x.law(9, 3, 3, 3, 3, 3, 3, 3);
        x.law(3, 1, 1, 1, 1, 1, 1, 1);
        C.is("6: DAY 89", x.force(89, 7), 3);
        C.is("6: DAY 90", x.force(90, 7), 9);
        C.is("6: DAY 400", x.force(400, 7), 9);
    }

    /** "on a DAY (0 .. 400)" */
    private static void p6Days() {
        FairRents x = new FairRents();
        told(x, with(0, 30));
        C.is("6: DAY 0", x.force(0, 3), 1);
        C.is("6: DAY 309", x.force(309, 3), 4);
        C.is("6: DAY 310", x.force(310, 3), 4);
        C.is("6: DAY 399", x.force(399, 3), 4);
        C.is("6: DAY 400", x.force(400, 3), 4);
        for (int day : Check.outside(0, 400)) {
            C.is("6: DAY " + day, x.force(day, 3), BAD);
        }
    }

    /** "0 .. 2 SCARCITY of AREAS, 3 WEIGHT, 4 LESS, 5 STEP, 6 BAR, 7 the YEAR" */
    private static void p6Whats() {
        FairRents x = new FairRents();
        told(x, MIDDLE);
        int[] due = {10, 20, 30, 4, 5, 60, 8, 7};
        for (int what = 0; what < 8; what++) {
            C.is("6: what " + what, x.force(70, what), due[what]);
        }
        for (int what : Check.outside(0, 7)) {
            C.is("6: what " + what, x.force(70, what), BAD);
            C.is("6: at first, what " + what, x.force(0, what), BAD);
        }
    }

    /** "7 the YEAR that it was told for (NONE: the first one)" */
    private static void p6YearToldFor() {
        FairRents x = new FairRents();
        C.is("6: none told", x.force(400, 7), NONE);
        told(x, with(0, 1));
        C.is("6: the first one", x.force(9, 7), NONE);
        C.is("6: YEAR 1", x.force(10, 7), 1);
        C.is("6: YEAR 1 in a later YEAR", x.force(305, 7), 1);
    }

    private static void p6RefusedChangesNothing() {
        for (Story s : new Story[] {Story.empty(C), Story.busy(C), Story.full(C)}) {
            s.refuses("force(-1, 0)", BAD, x -> x.force(-1, 0));
            s.refuses("force(401, 0)", BAD, x -> x.force(401, 0));
            s.refuses("force(0, -1)", BAD, x -> x.force(0, -1));
            s.refuses("force(0, 8)", BAD, x -> x.force(0, 8));
        }
    }
}
