/** What the tests of the project share: due answers, due refusals, and hills to start from. */
final class Check {
    interface Call {
        void run();
    }

    private final String test;
    private int wrong = 0;

    Check(String test) {
        this.test = test;
    }

    void due(String call, long got, long want) {
        if (got != want) {
            tell(call + " answered " + got + ", due is " + want);
        }
    }

    void due(String call, boolean got, boolean want) {
        if (got != want) {
            tell(call + " answered " + got + ", due is " + want);
        }
    }

    void due(String call, double got, double want) {
        if (got != want) {
            tell(call + " answered " + got + ", due is " + want);
        }
    }

    /** What the machine throws by itself is of a class below, or comes out of the library. */
    void refused(String call, Subakhall x, Class<? extends RuntimeException> want, Call made) {
        long before = x.digest();
        Class<?> got = null;
        try {
            made.run();
        } catch (RuntimeException e) {
            got = e.getClass();
            if (!e.getStackTrace()[0].getClassName().startsWith("Subakhall")) {
                tell(call + " was thrown by " + e.getStackTrace()[0]);
            }
        }
        if (got != want) {
            tell(call + " threw " + got + ", due is " + want);
        }
        if (x.digest() != before) {
            tell(call + " changed something");
        }
    }

    void noSuch(String call, Subakhall x, Call made) {
        refused(call, x, IndexOutOfBoundsException.class, made);
    }

    void badArgument(String call, Subakhall x, Call made) {
        refused(call, x, IllegalArgumentException.class, made);
    }

    void badState(String call, Subakhall x, Call made) {
        refused(call, x, IllegalStateException.class, made);
    }

    private void tell(String what) {
        wrong++;
        System.out.println(test + ": " + what);
    }

    void end() {
        System.out.println(test + ": " + (wrong == 0 ? "all is as due" : wrong + " not as due"));
        if (wrong != 0) {
            System.exit(1);
        }
    }

    /** One society that is always open and loses nothing, with one open field. */
    static Subakhall oneField(int bund) {
        Subakhall x = new Subakhall();
        x.society(1, 0, 0, 210);
        x.field(0, 1, bund);
        x.gate(0, true);
        return x;
    }

    /** Day 1, field 0 stands 18 deep and is planted. */
    static Subakhall planted(int kind) {
        Subakhall x = oneField(60);
        x.day(20, 0, 0);
        x.puddle(0);
        helpAndPlant(x, 0, kind);
        return x;
    }

    static void helpAndPlant(Subakhall x, int field, int kind) {
        x.help(field, field);
        x.help(field, field);
        x.help(field, field);
        x.plant(field, kind);
    }

    /** Lets the day pass on which field 0, on the stalk and alone, ends that deep; bund allowing. */
    static void dayTo(Subakhall x, int depth, int warmth) {
        int lost = 1 + x.ofField(0, 2) + 2;
        x.day(depth + lost - x.ofField(0, 1), warmth, 0);
    }

    /** Many bred pests: with ducks 4 are eaten each day. */
    static void breed(Subakhall x, int days, boolean withDucks) {
        x.ducks(0, withDucks);
        for (int i = 0; i < days; i++) {
            dayTo(x, 15, 0);
        }
        x.ducks(0, false);
    }

    /** Day 5, field 0 is ripe, with vigour 100, 3 pests and 17 nitrogen: it yields 26. */
    static Subakhall ripe() {
        Subakhall x = planted(0);
        for (int i = 0; i < 4; i++) {
            dayTo(x, 20, 40);
        }
        return x;
    }
}
