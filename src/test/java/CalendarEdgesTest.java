/** Terms, 2: the DAY, the TEMPLE'S DAY, WINDOWS that wrap round, and DARK DAYS. */
public final class CalendarEdgesTest {
    private static final Check check = new Check("CalendarEdgesTest");

    public static void main(String[] args) {
        dayZero();
        templesDay();
        dark();
        nothingIsPlantedOnADarkDay();
        windows();
        windowOfTheNewDay();
        check.end();
    }

    private static void dayZero() {
        Subakhall x = Hills.of(1, 60, 0);
        check.due("2: \"it is the DAY 0 at first\"", x.many(2), 0);
        check.due("2: the TEMPLE'S DAY 0", x.many(3), 0);
        check.due("2: \"DARK (the DAY 0, too)\"", x.many(4), 1);
        check.badArgument("13: a refused DAY", x, () -> x.day(-1, 0, 0));
        check.due("2: still the DAY 0", x.many(2), 0);
        check.due("13: \"Returns the DAY then\"", x.day(0, 0, 0), 1);
        check.due("2: the DAY 1 is not DARK", x.many(4), 0);
    }

    private static void templesDay() {
        Subakhall x = new Subakhall();
        for (int day = 1; day <= 421; day++) {
            check.due("13: the DAY", x.day(0, 0, 0), day);
            if (day == 209 || day == 419) {
                check.due("2: the TEMPLE'S DAY at its end", x.many(3), 209);
            } else if (day == 210 || day == 420) {
                check.due("2: \"the DAY modulo 210\" begins anew", x.many(3), 0);
                check.due("2: the DAY does not", x.many(2), day);
            } else if (day == 211 || day == 421) {
                check.due("2: the TEMPLE'S DAY 1", x.many(3), 1);
            }
        }
    }

    private static void dark() {
        Subakhall x = new Subakhall();
        for (int day = 1; day <= 241; day++) {
            x.day(0, 0, 0);
            check.due("2: DARK on " + day, x.many(4),
                    day == 30 || day == 60 || day == 90 || day == 120 || day == 150 || day == 180
                            || day == 210 || day == 240 ? 1 : 0);
        }
    }

    private static void nothingIsPlantedOnADarkDay() {
        for (int dark : new int[] {30, 60, 210}) {
            Subakhall x = Hills.puddled(1, 0, 0, 0);
            for (int f = 0; f < 3; f++) {
                x.help(f, f);
                x.help(f, f);
                x.help(f, f);
            }
            while (x.many(2) < dark - 1) {
                Hills.rain(x, 0);
            }
            check.due("8: the DAY ahead", x.plant(0, 0), dark - 1);
            Hills.rain(x, 0);
            check.badState("8: \"the DAY is DARK\"", x, () -> x.plant(1, 0));
            check.due("8: it is PUDDLED yet", x.ofField(1, 4), 1);
            check.due("8: with its HELP", x.ofField(1, 11), 3);
            check.due("9: a DARK DAY is for HELP", x.help(2, 1), 4);
            Hills.rain(x, 0);
            check.due("8: the DAY behind", x.plant(1, 0), dark + 1);
            check.due("8: the DAY behind, another one", x.plant(2, 0), dark + 1);
        }
    }

    /** Told by days that are counted on, not by a remainder. */
    private static boolean isOpen(int from, int days, int day) {
        for (int begun = from - 210; begun <= day; begun += 210) {
            if (day < begun + days) {
                return true;
            }
        }
        return false;
    }

    private static void windows() {
        int[][] windows = {{0, 1}, {0, 2}, {0, 209}, {0, 210}, {1, 1}, {1, 209}, {1, 210}, {5, 1},
            {100, 109}, {100, 110}, {100, 111}, {100, 209}, {208, 1}, {208, 2}, {208, 3}, {209, 1},
            {209, 2}, {209, 209}, {209, 210}};
        for (int[] w : windows) {
            Subakhall x = new Subakhall();
            x.society(1, 0, w[0], w[1]);
            x.field(0, 1, 5);
            x.gate(0, true);
            window(x, w[0], w[1], 0);
            for (int day = 1; day <= 425; day++) {
                x.day(3, 0, 0);
                window(x, w[0], w[1], day);
            }
        }
    }

    private static void window(Subakhall x, int from, int days, int day) {
        boolean is = isOpen(from, days, day);
        boolean isEdge = is != isOpen(from, days, day + 1) || day > 0 && is != isOpen(from, days, day - 1);
        if (!isEdge && day % 210 != 0 && day % 210 != 209) {
            return;
        }
        String told = "2: WINDOW from " + from + " for " + days + " on " + day;
        check.due(told, x.ofSociety(0, 4), is ? 1 : 0);
        check.due(told + ", what is got", x.ofField(0, 12), is && day > 0 ? 3 : 0);
    }

    private static void windowOfTheNewDay() {
        Subakhall x = new Subakhall();
        x.society(1, 0, 1, 1);
        x.field(0, 1, 60);
        x.gate(0, true);
        check.due("2: shut on the DAY 0", x.ofSociety(0, 4), 0);
        x.day(10, 0, 0);
        check.due("2: \"the DAY is 1 more, then\" it is looked at", x.ofField(0, 12), 10);
        check.due("2: open on the DAY 1", x.ofSociety(0, 4), 1);
        x.day(10, 0, 0);
        check.due("2: shut on the DAY 2", x.ofField(0, 12), 0);
    }
}
