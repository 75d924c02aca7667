/** Promise 13, step by step of a day. */
public final class DayTest {
    private static final Check check = new Check("DayTest");

    public static void main(String[] args) {
        refuses();
        weir();
        lossAndLeft();
        window();
        spillAndSeep();
        belowOverOthers();
        dryAndCracks();
        drinks();
        stages();
        hurt();
        hurtByPests();
        nitrogen();
        pestsBreed();
        pestsFly();
        pestsFlyBoth();
        pestsFlyAbove20();
        excluded();
        check.end();
    }

    private static void refuses() {
        Subakhall x = Check.oneField(60);
        int[][] wrong = {{-1, 0, 0}, {201, 0, 0}, {0, -1, 0}, {0, 41, 0}, {0, 0, -1}, {0, 0, 31},
            {Integer.MIN_VALUE, 0, 0}, {0, Integer.MAX_VALUE, 0}};
        for (int[] w : wrong) {
            check.badArgument("13: day" + java.util.Arrays.toString(w), x,
                    () -> x.day(w[0], w[1], w[2]));
        }
        check.due("13: day(200, 40, 30)", x.day(200, 40, 30), 1);
        check.due("13: day(0, 0, 0)", x.day(0, 0, 0), 2);
    }

    private static void weir() {
        Subakhall x = new Subakhall();
        x.society(1, 0, 0, 210);
        x.society(2, 0, 0, 210);
        x.day(100, 0, 0);
        check.due("13: s 0 gets", x.ofSociety(0, 7), 33);
        check.due("13: s 1 gets", x.ofSociety(1, 7), 66);
        check.due("13: REST", x.water(2), 1);
        check.due("13: without FIELDS it runs OUT", x.water(6), 99);
        x.day(101, 0, 0);
        check.due("13: REST is split, too", x.ofSociety(1, 7), 68);
        check.due("13: REST then", x.water(2), 0);
    }

    private static void lossAndLeft() {
        Subakhall x = new Subakhall();
        x.society(1, 10, 0, 210);
        for (int i = 0; i < 3; i++) {
            x.field(0, 1, 60);
            x.gate(i, true);
        }
        x.day(19, 0, 0);
        // 1 of 19 sinks, 18 are split, and each field lets 1 sink.
        check.due("13: LOSS sinks", x.water(4), 4);
        check.due("13: each gets", x.ofField(2, 12), 6);
        x.day(9, 0, 0);
        check.due("13: no LOSS of 9", x.ofField(0, 12), 3);
        x.day(8, 0, 0);
        check.due("13: LEFT", x.ofSociety(0, 3), 2);
        check.due("13: LEFT of all", x.water(3), 2);
        x.day(10, 0, 0);
        check.due("13: LEFT is split, and has no LOSS", x.ofField(0, 12), 3);
        check.due("13: 9 and 2 of 3", x.ofSociety(0, 3), 2);
        x.gate(0, false);
        x.gate(1, false);
        x.gate(2, false);
        x.day(0, 0, 0);
        check.due("13: LEFT runs OUT behind shut GATES", x.ofSociety(0, 3), 0);
        check.due("13: OUT", x.water(6), 2);
        check.due("13: closed", x.isClosed(), true);
    }

    private static void window() {
        Subakhall x = new Subakhall();
        x.society(1, 0, 2, 2);
        x.society(1, 0, 209, 3);
        x.field(0, 1, 60);
        x.field(1, 1, 60);
        x.gate(0, true);
        x.gate(1, true);
        int[] ofFirst = {0, 5, 5, 0};
        int[] ofSecond = {5, 0, 0, 0};
        for (int day = 1; day <= 4; day++) {
            x.day(10, 0, 0);
            check.due("13: WINDOW 2, 2 on day " + day, x.ofField(0, 12), ofFirst[day - 1]);
            check.due("13: WINDOW 209, 3 on day " + day, x.ofField(1, 12), ofSecond[day - 1]);
        }
        check.due("13: OUT by shut WINDOWS", x.water(6), 25);
        for (int day = 5; day <= 212; day++) {
            x.day(10, 0, 0);
            check.due("13: open on " + day, x.ofSociety(1, 4), day == 209 || day == 210 || day == 211 ? 1 : 0);
        }
        check.due("13: the TEMPLE'S DAY", x.many(3), 2);
        check.due("13: open anew", x.ofField(0, 12), 5);
    }

    private static void spillAndSeep() {
        Subakhall x = new Subakhall();
        x.society(1, 0, 0, 210);
        x.field(0, 1, 5);
        x.field(0, 1, 10);
        x.gate(0, true);
        x.day(20, 0, 2);
        // 22: 17 spill, 1 sinks, 1 is drunk. Below 19: 9 spill and run out, 1 sinks, 1 is drunk.
        check.due("13: above", x.ofField(0, 1), 3);
        check.due("13: below", x.ofField(1, 1), 8);
        check.due("13: OUT", x.water(6), 9);
        check.due("13: sank", x.water(4), 2);
        check.due("13: DRUNK", x.water(5), 2);
        check.due("13: came", x.water(0), 24);
        check.due("13: got through the GATE alone", x.ofField(1, 12), 0);
    }

    private static void belowOverOthers() {
        Subakhall x = new Subakhall();
        x.society(1, 0, 0, 210);
        x.society(1, 0, 0, 210);
        x.field(0, 1, 5);
        x.field(1, 1, 60);
        x.field(0, 1, 60);
        x.gate(0, true);
        x.day(40, 0, 0);
        check.due("13: not to another SOCIETY", x.ofField(1, 1), 0);
        check.due("13: to the next of its own", x.ofField(2, 1), 13);
    }

    private static void dryAndCracks() {
        Subakhall x = Check.oneField(60);
        x.field(0, 1, 60);
        for (int day = 1; day <= 15; day++) {
            x.day(0, 0, 0);
            check.due("13: DRY", x.ofField(0, 3), day);
            check.due("13: CRACKS on " + day, x.ofField(0, 2), Math.min(3, day / 3));
        }
        x.day(6, 0, 0);
        check.due("13: 1 deep", x.ofField(0, 1), 1);
        check.due("13: 1 deep is not DRY", x.ofField(0, 3), 0);
        x.day(29, 0, 0);
        check.due("13: CRACKS seep 4", x.ofField(0, 1), 25);
        check.due("13: a half of it is below, and seeps and is DRUNK", x.ofField(1, 1), 0);
        check.due("13: DRY no more", x.ofField(0, 3), 0);
        check.due("13: CRACKS stay", x.ofField(0, 2), 3);
        // Each day: above 2 of the 4 sink; below 2 come and seep, 1 runs out and 1 sinks.
        check.due("13: sank", x.water(4), 6);
        check.due("13: OUT", x.water(6), 2);
        check.due("13: DRUNK", x.water(5), 2);
    }

    private static void drinks() {
        Subakhall x = Check.planted(0);
        check.due("13: PUDDLED or FALLOW drinks 1", x.water(5), 1);
        x.day(0, 20, 0);
        check.due("13: GROWING drinks 2", x.ofField(0, 1), 15);
        check.due("13: DRUNK", x.water(5), 3);
        for (int i = 0; i < 5; i++) {
            x.day(0, 0, 0);
        }
        check.due("13: 0 are left", x.ofField(0, 1), 0);
        check.due("13: DRY", x.ofField(0, 3), 1);
        x.day(2, 0, 0);
        check.due("13: all its WATER at most", x.water(5), 14);
        Subakhall y = Check.ripe();
        int drunk = y.water(5);
        y.day(0, 0, 0);
        check.due("13: RIPE drinks 1", y.water(5) - drunk, 1);
    }

    private static void stages() {
        int[][] asks = {{60, 100, 150}, {80, 140, 200}, {100, 180, 260}};
        for (int kind = 0; kind < 3; kind++) {
            Subakhall x = Check.planted(kind);
            for (int sum = 10; sum <= asks[kind][2]; sum += 10) {
                Check.dayTo(x, 15, 9);
                int before = sum > asks[kind][1] ? 4 : sum > asks[kind][0] ? 3 : 2;
                check.due("13: STAGE at " + (sum - 1), x.ofField(0, 4), before);
                Check.dayTo(x, 15, 1);
                int then = sum >= asks[kind][2] ? 5 : sum >= asks[kind][1] ? 4 : sum >= asks[kind][0] ? 3 : 2;
                check.due("13: SUM", x.ofField(0, 6), sum);
                check.due("13: STAGE at " + sum, x.ofField(0, 4), then);
            }
            Check.dayTo(x, 17, 30);
            check.due("13: RIPE sums no more", x.ofField(0, 6), asks[kind][2]);
        }
    }

    private static void hurt() {
        int[] drought = {3, 6, 1, 0};
        int[] flood = {2, 4, 1, 0};
        for (int stage = 2; stage <= 5; stage++) {
            hurt(stage, 0, drought[stage - 2]);
            hurt(stage, 1, drought[stage - 2]);
            hurt(stage, 2, 0);
            hurt(stage, 20, 0);
            hurt(stage, 21, flood[stage - 2]);
            hurt(stage, 50, flood[stage - 2]);
        }
        Subakhall x = Check.planted(0);
        Check.dayTo(x, 20, 40);
        Check.dayTo(x, 21, 20);
        check.due("13: FLOWERING as the day ends", x.ofField(0, 4), 3);
        check.due("13: hurt by the STAGE ahead of the WARMTH", x.ofField(0, 7), 98);
        for (int i = 0; i < 40; i++) {
            x.day(0, 0, 0);
        }
        check.due("13: VIGOUR is 0 at least", x.ofField(0, 7), 0);
    }

    private static void hurt(int stage, int depth, int want) {
        int[][] warmth = {{0, 0, 0, 0}, {40, 20, 0, 0}, {40, 40, 20, 0}, {40, 40, 40, 30}};
        Subakhall x = Check.planted(0);
        for (int i = 0; i < 4; i++) {
            Check.dayTo(x, 15, warmth[stage - 2][i]);
        }
        int lost = 1 + (stage == 5 ? 1 : 2);
        while (depth < 15 && x.ofField(0, 1) > lost) {
            x.day(0, 0, 0);
        }
        check.due("13: the STAGE to hurt", x.ofField(0, 4), stage);
        check.due("13: not hurt so far", x.ofField(0, 7), 100);
        x.day(depth + lost - x.ofField(0, 1), 0, 0);
        check.due("13: as deep as wished", x.ofField(0, 1), depth);
        check.due("13: hurt in " + stage + " at " + depth, 100 - x.ofField(0, 7), want);
    }

    private static void hurtByPests() {
        Subakhall x = Check.planted(2);
        int[] pests = {1, 2, 3, 4, 6, 8, 11, 14, 18, 23, 29, 37, 47, 59, 74, 93, 99, 99};
        int vigour = 100;
        for (int i = 0; i < pests.length; i++) {
            Check.dayTo(x, 15, 0);
            vigour -= i == 0 ? 0 : pests[i - 1] / 20;
            check.due("13: PESTS", x.ofField(0, 8), pests[i]);
            check.due("13: VIGOUR by PESTS", x.ofField(0, 7), vigour);
        }
        Subakhall y = Check.planted(2);
        Check.breed(y, 9, false);
        Check.breed(y, 2, true);
        check.due("13: 20 PESTS", y.ofField(0, 8), 20);
        check.due("13: 19 do not hurt", y.ofField(0, 7), 100);
        Check.breed(y, 1, false);
        check.due("13: 20 hurt by 1", y.ofField(0, 7), 99);
    }

    private static void nitrogen() {
        Subakhall x = Check.planted(0);
        check.due("13: NITROGEN at first", x.ofField(0, 9), 20);
        for (int i = 1; i <= 22; i++) {
            Check.dayTo(x, 15, 1);
            check.due("13: a day takes 1", x.ofField(0, 9), Math.max(0, 20 - i));
        }
        Subakhall y = Check.ripe();
        check.due("13: not as it gets RIPE", y.ofField(0, 9), 17);
        y.day(3, 40, 0);
        check.due("13: nor RIPE", y.ofField(0, 9), 17);
    }

    private static void pestsBreed() {
        Subakhall x = Check.ripe();
        x.day(3, 0, 0);
        check.due("13: RIPE keeps its PESTS", x.ofField(0, 8), 3);
        x.harvest(0, false);
        x.day(3, 0, 0);
        check.due("13: FALLOW halves them", x.ofField(0, 8), 1);
        Subakhall y = Check.ripe();
        y.ducks(0, true);
        y.day(3, 0, 0);
        check.due("13: DUCKS in any STAGE", y.ofField(0, 8), 0);
        Subakhall z = Check.ripe();
        z.harvest(0, false);
        z.puddle(0);
        z.day(3, 0, 0);
        check.due("13: PUDDLED halves them", z.ofField(0, 8), 1);
    }

    /** Three fields; the first and the last are of one society, the middle is of another. */
    private static Subakhall threeWet() {
        Subakhall x = new Subakhall();
        x.society(1, 0, 0, 210);
        x.society(1, 0, 0, 210);
        x.field(0, 1, 60);
        x.field(1, 1, 60);
        x.field(0, 1, 60);
        x.day(0, 0, 30);
        x.day(0, 0, 30);
        for (int i = 0; i < 3; i++) {
            x.puddle(i);
        }
        return x;
    }

    private static void pestsFly() {
        Subakhall x = threeWet();
        Check.helpAndPlant(x, 0, 2);
        for (int i = 0; i < 9; i++) {
            x.day(0, 0, 3);
        }
        check.due("13: 18 do not fly", x.ofField(0, 8), 18);
        x.day(0, 0, 3);
        check.due("13: without a goal they stay", x.ofField(0, 8), 23);
        Check.helpAndPlant(x, 2, 2);
        x.day(0, 0, 3);
        // 23 and 1 and 5 are 29, a fifth flies to field 2, which has 1 of its own.
        check.due("13: a fifth less", x.ofField(0, 8), 24);
        check.due("13: nobody flies to a PUDDLED one", x.ofField(1, 8), 0);
        check.due("13: a fifth more", x.ofField(2, 8), 6);
    }

    private static void pestsFlyBoth() {
        Subakhall x = threeWet();
        Check.helpAndPlant(x, 1, 2);
        for (int i = 0; i < 10; i++) {
            x.day(0, 0, 3);
        }
        Check.helpAndPlant(x, 0, 2);
        Check.helpAndPlant(x, 2, 2);
        x.day(0, 0, 3);
        check.due("13: two fifths less", x.ofField(1, 8), 19);
        check.due("13: one to the smaller number", x.ofField(0, 8), 6);
        check.due("13: one to the greater number", x.ofField(2, 8), 6);
    }

    private static void pestsFlyAbove20() {
        Subakhall x = threeWet();
        Check.helpAndPlant(x, 0, 2);
        breed(x, 9, false);
        breed(x, 2, true);
        check.due("13: 20 PESTS", x.ofField(0, 8), 20);
        Subakhall y = threeWet();
        Check.helpAndPlant(y, 0, 2);
        Check.helpAndPlant(y, 2, 2);
        y.ducks(2, true);
        breed(y, 9, false);
        breed(y, 2, true);
        check.due("13: 20 do not fly", y.ofField(0, 8), 20);
        check.due("13: none has come", y.ofField(2, 8), 0);
        Subakhall z = threeWet();
        Check.helpAndPlant(z, 0, 2);
        Check.helpAndPlant(z, 2, 2);
        z.ducks(2, true);
        breed(z, 6, false);
        breed(z, 1, true);
        breed(z, 4, false);
        check.due("13: of 21 a fifth flies", z.ofField(0, 8), 17);
        check.due("13: a fifth of 21 has come", z.ofField(2, 8), 4);
    }

    private static void breed(Subakhall x, int days, boolean withDucks) {
        x.ducks(0, withDucks);
        for (int i = 0; i < days; i++) {
            x.day(0, 0, 3);
        }
    }

    private static void excluded() {
        Subakhall x = Check.oneField(60);
        x.field(0, 1, 60);
        x.gate(1, true);
        x.stones(0, 4);
        x.inspect(0);
        x.day(10, 0, 0);
        check.due("13: with 0 COINS not EXCLUDED", x.ofField(0, 12), 5);
        x.stones(0, 1);
        x.inspect(0);
        x.day(10, 0, 0);
        check.due("13: EXCLUDED", x.ofField(0, 12), 0);
        check.due("13: the other gets all", x.ofField(1, 12), 10);
    }
}
