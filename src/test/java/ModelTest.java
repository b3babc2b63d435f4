import java.util.ArrayList;
import java.util.Collections;
import java.util.List;
import java.util.Random;

/**
 * Long random runs, call by call beside a model that says the document's terms as plainly as it
 * can (lists, and DUE by its own recursion). Wrong numbers are mixed in, so a run also shows that
 * no call ever throws and that what is refused changes nothing.
 */
public final class ModelTest {
    private static final Check C = new Check();
    private static final int RUNS = 3000;
    private static final int CALLS = 512;
    /** Answers after the 512th call are free, but none may throw: a few runs go on and see. */
    private static final int LONG_CALLS = 3000;
    private static final boolean[] TAKES_HOME = new boolean[23];
    static {
        for (int call : new int[] {1, 2, 9, 10, 11, 12, 13, 15, 16, 17, 18, 21, 22}) {
            TAKES_HOME[call] = true;
        }
    }
    private static final int[] ODD = {Integer.MIN_VALUE, Integer.MIN_VALUE + 1, -1000000, -9, -1, 0, 1,
        8, 10, 12, 20, 31, 61, 91, 201, 301, 401, 501, 5001, 100001, Integer.MAX_VALUE - 1, Integer.MAX_VALUE};

    public static void main(String[] args) {
        for (int seed = 0; seed < RUNS; seed++) {
            oneRun(new Random(seed), seed);
        }
        C.end();
    }

    private static void oneRun(Random r, int seed) {
        FairRents x = new FairRents();
        Model m = new Model();
        int[] a = new int[8];
        int slow = 1 + r.nextInt(30);
        int oneIn = 5 + r.nextInt(200);
        int homes = up(r, 1, 9);
        int areas = up(r, 1, 3);
        int calls = seed % 500 == 0 ? LONG_CALLS : CALLS;
        for (int i = 0; i < calls; i++) {
            int call = r.nextInt(23);
            fill(call, a, r, m.today, slow);
            if (call == 0) {
                a[1] = r.nextInt(areas);
            } else if (call == 5) {
                a[0] = r.nextInt(areas);
            } else if (TAKES_HOME[call] && a[0] < 9) {
                a[0] = r.nextInt(homes);
            }
            if (r.nextInt(oneIn) == 0) {
                a[r.nextInt(a.length)] = r.nextInt(4) == 0 ? r.nextInt() : ODD[r.nextInt(ODD.length)];
            }
            long due = m.answer(call, a);
            long got = answer(x, call, a);
            if (got != due && i < CALLS) {
                C.is("seed " + seed + ", call " + i + ", kind " + call + java.util.Arrays.toString(a), got, due);
                return;
            }
        }
        C.is("run", 0, 0);
    }

    private static int up(Random r, int least, int most) {
        return least + r.nextInt(most - least + 1);
    }

    /** Mostly as told, with the edges and one number beyond them now and then. */
    private static void fill(int call, int[] a, Random r, int today, int slow) {
        for (int i = 0; i < a.length; i++) {
            a[i] = r.nextInt(9);
        }
        a[0] = r.nextInt(4);
        switch (call) {
            case 0: a[0] = r.nextInt(3); a[2] = up(r, 1, 9); a[3] = r.nextInt(10); break;
            case 1: a[1] = r.nextInt(10); break;
            case 3:
                a[0] = Math.min(31, today / 10 + r.nextInt(4));
                a[1] = up(r, 0, 90); a[2] = up(r, 0, 90); a[3] = up(r, 0, 90); a[4] = up(r, 1, 9);
                a[5] = up(r, 0, 20); a[6] = r.nextBoolean() ? up(r, 1, 40) : up(r, 1, 500);
                a[7] = r.nextBoolean() ? up(r, 0, 3) : up(r, 0, 60);
                break;
            case 4: a[0] = r.nextInt(402); break;
            case 5: a[1] = r.nextInt(202); a[2] = r.nextBoolean() ? up(r, 1, 400) : up(r, 0, 5000); break;
            case 6: a[0] = r.nextInt(13); break;
            case 7: case 8: a[0] = up(r, 1, slow); break;
            case 9: a[1] = r.nextInt(301); a[2] = r.nextInt(6); break;
            case 10: a[1] = r.nextBoolean() ? up(r, 1, 400) : up(r, 0, 5001); if (r.nextInt(3) != 0) { a[0] = 9; } break;
            case 14: a[0] = r.nextInt(21); break;
            case 16: case 21: a[1] = Math.max(0, today - r.nextInt(25)); break;
            case 17: a[1] = r.nextBoolean() ? up(r, 0, 300) : up(r, 0, 100000); break;
            case 18: case 22: a[1] = r.nextInt(today + 2); break;
            case 19: a[0] = r.nextInt(7); break;
            default: break;
        }
    }

    private static long answer(FairRents x, int call, int[] a) {
        switch (call) {
            case 0: return x.home(a[0], a[1], a[2], a[3]);
            case 1: return x.faults(a[0], a[1]);
            case 2: return x.points(a[0]);
            case 3: return x.law(a[0], a[1], a[2], a[3], a[4], a[5], a[6], a[7]);
            case 4: return x.force(a[0], a[1]);
            case 5: return x.like(a[0], a[1], a[2]);
            case 6: return x.strike(a[0]);
            case 7: case 8: return x.days(a[0]);
            case 9: return x.head(a[0], a[1], a[2]);
            case 10: return x.let(a[0], a[1]);
            case 11: return x.ask(a[0]);
            case 12: return x.open(a[0]);
            case 13: return x.appeal(a[0]);
            case 14: return x.entry(a[0], a[1]);
            case 15: return x.latest(a[0]);
            case 16: case 21: return x.due(a[0], a[1]);
            case 17: return x.pay(a[0], a[1]);
            case 18: case 22: return x.owed(a[0], a[1]);
            case 19: return x.count(a[0]);
            default: return x.trace();
        }
    }

    /** The document in its own words. */
    private static final class Model {
        private static final int BAD = -1, STATE = -2, FULL = -3, NONE = -9, NO = -1000000000;
        int today = 0;
        private long trace = 0;
        private final List<int[]> homes = new ArrayList<>();    // kind, area, rooms, floor, faults
        private final List<int[]> lettings = new ArrayList<>(); // home, rent, first day
        private final List<int[]> sums = new ArrayList<>();     // letting, day, sum
        private final List<int[]> laws = new ArrayList<>();     // a, b, c, weight, less, step, bar, year
        private final List<int[]> likes = new ArrayList<>();    // area, points, rent, day, struck
        private final List<int[]> entries = new ArrayList<>();  // home, day, rent, head 0..2, stands, letting

        long answer(int call, int[] a) {
            switch (call) {
                case 0: return home(a);
                case 1: return faults(a[0], a[1]);
                case 2: return points(a[0]);
                case 3: return law(a);
                case 4: return no(a[0], 0, 400) || no(a[1], 0, 7) ? BAD : inForce(a[0])[a[1]];
                case 5: return like(a);
                case 6: return strike(a[0]);
                case 7: case 8: return days(a[0]);
                case 9: return noHome(a[0]) || no(a[1], 0, 300) || no(a[2], 0, 4) ? NO : heads(a[0], a[1])[a[2]];
                case 10: return let(a[0], a[1]);
                case 11: return ask(a[0]);
                case 12: return noHome(a[0]) ? BAD : open(a[0]);
                case 13: return appeal(a[0]);
                case 14: return no(a[0], 0, entries.size() - 1) || no(a[1], 0, 6) ? NO : entries.get(a[0])[a[1]];
                case 15: return noHome(a[0]) ? BAD : latest(a[0]);
                case 16: case 21: return due(a[0], a[1]);
                case 17: return pay(a[0], a[1]);
                case 18: case 22: return owed(a[0], a[1]);
                case 19: return count(a[0]);
                default: return trace;
            }
        }

        private static boolean no(int n, int least, int most) {
            return n < least || n > most;
        }

        private boolean noHome(int h) {
            return no(h, 0, homes.size() - 1);
        }

        private int home(int[] a) {
            if (no(a[0], 0, 2) || no(a[1], 0, 2) || no(a[2], 1, 9) || no(a[3], 0, 9)) return BAD;
            if (homes.size() == 8) return FULL;
            homes.add(new int[] {a[0], a[1], a[2], a[3], 0});
            return homes.size() - 1;
        }

        private int faults(int h, int n) {
            if (noHome(h) || no(n, 0, 9)) return BAD;
            int were = homes.get(h)[4];
            homes.get(h)[4] = n;
            return were;
        }

        private int worth(int[] home) {
            int plain = 10 * home[2];
            if (home[0] == 0) return plain;
            int flat = plain - 2 * home[3];
            if (home[0] == 1) return flat;
            return flat - (int) Math.floor(flat / 4.0);
        }

        private int points(int h) {
            if (noHome(h)) return BAD;
            trace += new int[] {1, 11, 111}[homes.get(h)[0]];
            return worth(homes.get(h));
        }

        private int law(int[] a) {
            if (no(a[0], 0, 30) || no(a[1], 0, 90) || no(a[2], 0, 90) || no(a[3], 0, 90) || no(a[4], 1, 9)
                    || no(a[5], 0, 20) || no(a[6], 1, 500) || no(a[7], 0, 60)) return BAD;
            if (today >= a[0] * 10) return STATE;
            laws.removeIf(l -> l[7] == a[0]);
            laws.add(new int[] {a[1], a[2], a[3], a[4], a[5], a[6], a[7], a[0]});
            return 1;
        }

        private int[] inForce(int day) {
            int[] best = {0, 0, 0, 1, 0, 500, 20, NONE};
            for (int[] l : laws) {
                if (l[7] * 10 <= day && l[7] > best[7]) best = l;
            }
            return best;
        }

        private int like(int[] a) {
            if (no(a[0], 0, 2) || no(a[1], 0, 200) || no(a[2], 1, 5000)) return BAD;
            if (likes.size() == 12) return FULL;
            likes.add(new int[] {a[0], a[1], a[2], today, 0});
            return likes.size() - 1;
        }

        private int strike(int n) {
            if (no(n, 0, likes.size() - 1)) return BAD;
            if (likes.get(n)[4] == 1) return STATE;
            likes.get(n)[4] = 1;
            return 1;
        }

        private int days(int n) {
            if (no(n, 1, 30)) return BAD;
            if (today + n > 300) return STATE;
            return today += n;
        }

        /** HEAD 0 .. 2, THE RENT, how many LIKES count. */
        private int[] heads(int h, int day) {
            int[] home = homes.get(h);
            int[] law = inForce(day);
            List<Integer> right = new ArrayList<>();
            for (int[] l : likes) {
                if (l[0] == home[1] && l[3] <= day && l[4] == 0) {
                    right.add(l[2] + law[3] * (worth(home) - l[1]));
                }
            }
            Collections.sort(right);
            int n = right.size();
            int zero = n == 0 ? 0 : n % 2 == 1 ? right.get(n / 2) : right.get(n / 2 - 1);
            int one = zero < 0 ? 0 : -(int) Math.floor(law[home[1]] * (long) zero / 100.0);
            int two = -law[4] * home[4];
            return new int[] {zero, one, two, Math.max(1, zero + one + two), n};
        }

        /** The number of the HOME's letting of TODAY, or -1. */
        private int letting(int h) {
            int found = -1;
            for (int i = 0; i < lettings.size(); i++) {
                if (lettings.get(i)[0] == h) found = i;
            }
            return found;
        }

        private int let(int h, int rent) {
            if (noHome(h) || no(rent, 1, 5000)) return BAD;
            lettings.add(new int[] {h, rent, today});
            return 1;
        }

        private int latest(int h) {
            int found = NONE;
            for (int i = 0; i < entries.size(); i++) {
                if (entries.get(i)[0] == h && entries.get(i)[6] == 1) found = i;
            }
            return found;
        }

        private boolean tooEarly(int h, int day) {
            int latest = latest(h);
            if (latest == NONE) return false;
            int told = entries.get(latest)[1];
            return day < told + inForce(told)[6];
        }

        private int open(int h) {
            int day = today;
            while (tooEarly(h, day)) day++;
            return day;
        }

        private int ask(int h) {
            if (noHome(h)) return BAD;
            if (letting(h) < 0 || tooEarly(h, today)) return STATE;
            if (entries.size() == 20) return FULL;
            int[] w = heads(h, today);
            entries.add(new int[] {h, today, w[3], w[0], w[1], w[2], 1, letting(h)});
            return entries.size() - 1;
        }

        private int appeal(int h) {
            if (noHome(h)) return BAD;
            int latest = latest(h);
            if (latest == NONE || today - entries.get(latest)[1] > 5) return STATE;
            entries.get(latest)[6] = 0;
            return latest;
        }

        private int dueOf(int letting, int day) {
            int[] latest = null;
            for (int[] e : entries) {
                if (e[7] == letting && e[6] == 1 && e[1] <= day) latest = e;
            }
            int rent = lettings.get(letting)[1];
            if (latest == null) return rent;
            int o = latest[1] == lettings.get(letting)[2] ? rent : dueOf(letting, latest[1] - 1);
            if (latest[2] <= o) return latest[2];
            int stepped = o;
            for (int begun = latest[1]; begun <= day; begun += 10) stepped += inForce(latest[1])[5];
            return Math.min(stepped, latest[2]);
        }

        private int due(int h, int day) {
            if (noHome(h) || no(day, 0, today)) return BAD;
            int letting = letting(h);
            if (letting < 0 || day < lettings.get(letting)[2]) return STATE;
            return dueOf(letting, day);
        }

        private int paid(int letting, int by) {
            int sum = 0;
            for (int[] s : sums) {
                if (s[0] == letting && s[1] <= by) sum += s[2];
            }
            return sum;
        }

        private int pay(int h, int sum) {
            if (noHome(h) || no(sum, 0, 100000)) return BAD;
            int letting = letting(h);
            if (letting < 0) return STATE;
            if (paid(letting, today) + sum > 1000000) return FULL;
            sums.add(new int[] {letting, today, sum});
            return paid(letting, today);
        }

        private int owed(int h, int day) {
            if (due(h, day) < 0) return NO;
            int letting = letting(h);
            int sum = 0;
            for (int d = lettings.get(letting)[2]; d <= day; d++) sum += dueOf(letting, d);
            return sum - paid(letting, day);
        }

        private int count(int what) {
            int let = 0;
            for (int h = 0; h < homes.size(); h++) {
                if (letting(h) >= 0) let++;
            }
            int[] all = {homes.size(), likes.size(), entries.size(), today, let, laws.size()};
            return no(what, 0, 5) ? BAD : all[what];
        }
    }
}
