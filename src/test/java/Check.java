/** Counts and prints the answers that are not as due; shared by the project's tests. */
final class Check {
    private int made = 0;
    private int wrong = 0;

    void is(String call, long got, long due) {
        made++;
        if (got != due) {
            wrong++;
            System.out.println(call + " answered " + got + ", due is " + due);
        }
    }

    void holds(String what, boolean held) {
        is(what, held ? 1 : 0, 1);
    }

    void end() {
        System.out.println(made + " answers, " + wrong + " not as due");
        if (wrong != 0 || made == 0) {
            System.exit(1);
        }
    }

    /**
     * Numbers that are not within least .. most: the first ones on both sides, the farthest ones,
     * and such as would be within if they were cut to fewer bits or wrapped around.
     */
    static int[] outside(int least, int most) {
        int[] tried = {least - 1, least - 2, most + 1, most + 2, -least - 1, -most - 1,
            least + 256, most - 256, least + 65536, most - 65536, least + (1 << 30),
            Integer.MIN_VALUE, Integer.MIN_VALUE + least, Integer.MIN_VALUE + most,
            Integer.MAX_VALUE, Integer.MAX_VALUE - most, 429496730, 858993460};
        int kept = 0;
        for (int number : tried) {
            if (number < least || number > most) {
                tried[kept++] = number;
            }
        }
        return java.util.Arrays.copyOf(tried, kept);
    }
}
