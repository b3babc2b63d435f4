import java.util.ArrayList;
import java.util.List;
import java.util.function.Consumer;
import java.util.function.ToLongFunction;

/**
 * A run of calls, told again on new objects as often as needed, so that what is answered after its
 * end is compared with and without a refused call there: nothing may have changed. The questions
 * are put in groups, each to an object of its own, as an object is promised for 512 calls alone.
 * LAWS and HEADS are asked for on the first and the last DAY of each YEAR, to keep them few.
 */
final class Story {
    private static final int GROUP = 300;
    private static final List<String> NAMES = new ArrayList<>();
    private static final List<ToLongFunction<FairRents>> QUESTIONS = new ArrayList<>();
    static {
        askWhatStands();
        askDays();
        startNewGroup();
        goOn();
    }

    private final Check check;
    private final String name;
    private final Consumer<FairRents> run;
    private final long[] seen;

    Story(Check check, String name, Consumer<FairRents> run) {
        this.check = check;
        this.name = name;
        this.run = run;
        this.seen = seenAfter(run);
    }

    /** The call answers so at the story's end, and nothing is changed by it. */
    void refuses(String call, long due, ToLongFunction<FairRents> refused) {
        check.is(name + ": " + call, refused.applyAsLong(told(run)), due);
        long[] after = seenAfter(x -> {
            run.accept(x);
            refused.applyAsLong(x);
        });
        for (int i = 0; i < seen.length; i++) {
            if (after[i] != seen[i]) {
                check.is(name + ": after " + call + ", " + NAMES.get(i), after[i], seen[i]);
                return;
            }
        }
        check.is(name, 0, 0);
    }

    private static FairRents told(Consumer<FairRents> run) {
        FairRents x = new FairRents();
        run.accept(x);
        return x;
    }

    private static long[] seenAfter(Consumer<FairRents> run) {
        long[] seen = new long[QUESTIONS.size()];
        FairRents x = null;
        for (int i = 0; i < seen.length; i++) {
            if (i % GROUP == 0) {
                x = told(run);
            }
            ToLongFunction<FairRents> question = QUESTIONS.get(i);
            seen[i] = question == null ? 0 : question.applyAsLong(x);
        }
        return seen;
    }

    private static void add(String name, ToLongFunction<FairRents> question) {
        NAMES.add(name);
        QUESTIONS.add(question);
    }

    private static void startNewGroup() {
        while (QUESTIONS.size() % GROUP != 0) {
            add("nothing", null);
        }
    }

    private static void askWhatStands() {
        for (int what = 0; what <= 5; what++) {
            int w = what;
            add("count(" + w + ")", x -> x.count(w));
        }
        add("trace()", x -> x.trace());
        for (int home = 0; home < 8; home++) {
            int h = home;
            add("latest(" + h + ")", x -> x.latest(h));
            add("open(" + h + ")", x -> x.open(h));
        }
        for (int entry = 0; entry < 20; entry++) {
            for (int what = 0; what <= 6; what++) {
                int e = entry;
                int w = what;
                add("entry(" + e + ", " + w + ")", x -> x.entry(e, w));
            }
        }
    }

    private static void askDays() {
        for (int day = 0; day <= 400; day++) {
            int d = day;
            for (int what = 0; what <= 7 && (d % 10 == 0 || d % 10 == 9); what++) {
                int w = what;
                add("force(" + d + ", " + w + ")", x -> x.force(d, w));
            }
            for (int home = 0; home < 8 && d <= 300; home++) {
                int h = home;
                for (int what = 0; what <= 4 && (d % 10 == 0 || d % 10 == 9); what++) {
                    int w = what;
                    add("head(" + h + ", " + d + ", " + w + ")", x -> x.head(h, d, w));
                }
                add("due(" + h + ", " + d + ")", x -> x.due(h, d));
                add("owed(" + h + ", " + d + ")", x -> x.owed(h, d));
            }
        }
    }

    /** Calls that change something, one after the other, on one object: what comes next. */
    private static void goOn() {
        for (int home = 0; home < 8; home++) {
            int h = home;
            add("faults(" + h + ", 1)", x -> x.faults(h, 1));
            add("points(" + h + ")", x -> x.points(h));
            add("pay(" + h + ", 1)", x -> x.pay(h, 1));
            add("appeal(" + h + ")", x -> x.appeal(h));
            add("ask(" + h + ")", x -> x.ask(h));
            add("let(" + h + ", 9)", x -> x.let(h, 9));
        }
        add("then trace()", x -> x.trace());
        for (int like = 0; like < 12; like++) {
            int l = like;
            add("strike(" + l + ")", x -> x.strike(l));
        }
        add("like(0, 0, 1)", x -> x.like(0, 0, 1));
        add("home(2, 0, 3, 3)", x -> x.home(2, 0, 3, 3));
        for (int year = 0; year <= 30; year++) {
            int y = year;
            add("law(" + y + ", ..)", x -> x.law(y, 1, 2, 3, 4, 5, 6, 7));
        }
        add("days(1)", x -> x.days(1));
        for (int home = 0; home < 8; home++) {
            int h = home;
            add("then ask(" + h + ")", x -> x.ask(h));
            add("then owed(" + h + ", TODAY)", x -> x.owed(h, x.count(3)));
        }
        for (int what = 0; what <= 5; what++) {
            int w = what;
            add("then count(" + w + ")", x -> x.count(w));
        }
    }

    // ---- stories that several tests tell

    static Story empty(Check check) {
        return new Story(check, "a new object", x -> { });
    }

    /** Some of everything on DAY 27: homes let and not, entries that stand and not, sums, LAWS. */
    static void tellBusy(FairRents x) {
        x.law(1, 10, 20, 30, 2, 3, 15, 4);
        x.law(2, 11, 21, 31, 3, 4, 16, 8);
        x.law(5, 12, 22, 32, 4, 5, 17, 30);
        x.home(0, 0, 5, 0);
        x.home(1, 1, 4, 3);
        x.home(2, 0, 9, 7);
        x.home(1, 2, 1, 9);
        x.like(0, 40, 300);
        x.like(0, 60, 350);
        x.like(1, 30, 200);
        x.like(0, 50, 340);
        x.strike(3);
        x.let(0, 150);
        x.let(1, 250);
        x.pay(0, 70);
        x.days(13);
        x.faults(0, 2);
        x.ask(0);
        x.ask(1);
        x.appeal(1);
        x.days(9);
        x.like(2, 7, 90);
        x.let(2, 120);
        x.ask(2);
        x.pay(2, 1000);
        x.pay(0, 500);
        x.ask(0);
        x.appeal(0);
        x.days(5);
        x.ask(0);
        x.points(2);
        x.let(1, 260);
    }

    static Story busy(Check check) {
        return new Story(check, "a busy object", Story::tellBusy);
    }

    /**
     * 8 HOMES, 12 LIKES, 20 entries, 1000000 PAID, a LAW for each YEAR, on DAY 295; some LIKES are
     * struck, some entries unwound, and HOMES have FAULTS, so that each of these could change.
     */
    static void tellFull(FairRents x) {
        for (int year = 1; year <= 30; year++) {
            x.law(year, year, 2 * year, 3 * year, 1 + year % 9, year % 21, 10 + year, year % 3);
        }
        for (int h = 0; h < 8; h++) {
            x.home(h % 3, h % 3, 9 - h, h);
            x.faults(h, h + 2);
            x.let(h, 100 + h);
        }
        for (int l = 0; l < 12; l++) {
            x.like(l % 3, 10 * l, 200 + l);
        }
        x.strike(1);
        x.strike(11);
        for (int i = 0; i < 20; i++) {
            x.days(i < 15 ? 13 : 20);
            x.ask(i % 7);
            if (i % 6 == 3) {
                x.appeal(i % 7);
            }
        }
        for (int i = 0; i < 10; i++) {
            x.pay(0, 100000);
        }
    }

    static Story full(Check check) {
        return new Story(check, "a full object", Story::tellFull);
    }
}
