/** Terms, 2 (3) and (4): how a FIELD is hurt, grows, and breeds PESTS, and where these fly. */
public final class GrowthEdgesTest {
    private static final Check check = new Check("GrowthEdgesTest");

    public static void main(String[] args) {
        hurtByWater();
        hurtByTheWaterThatIsLeft();
        hurtByPests();
        hurtByBoth();
        hurtTo0();
        hurtByTheStageAhead();
        stageByStage();
        warmthOf0();
        nitrogen();
        quarter();
        held();
        ripeBreedsNone();
        halved();
        ducks();
        stageAsTheDayEnds();
        plantedByDay();
        flyAbove20();
        fifth();
        toTheNearest();
        toTheStages2To4();
        fromAnyStage();
        bothWays();
        allAtOnce();
        ofAnySociety();
        ninetyNineAtMost();
        check.end();
    }

    /** Lets the day pass on which the FIELD of inStage() ends that deep. */
    private static void endAt(Subakhall x, int depth) {
        int lost = 1 + x.ofField(0, 2) + (x.ofField(0, 4) >= 2 && x.ofField(0, 4) <= 4 ? 2 : 1);
        while (depth + lost < x.ofField(0, 1)) {
            x.day(0, 0, 0);
        }
        x.day(depth + lost - x.ofField(0, 1), 0, 0);
        check.due("2: as deep as wished", x.ofField(0, 1), depth);
    }

    private static void hurtByWater() {
        int[] few = {0, 0, 3, 6, 1, 0};
        int[] much = {0, 0, 2, 4, 1, 0};
        for (int stage = 0; stage <= 5; stage++) {
            int[][] cases = {{1, few[stage]}, {2, 0}, {3, 0}, {20, 0}, {21, much[stage]},
                {57, much[stage]}};
            for (int[] c : cases) {
                Subakhall x = Hills.inStage(stage);
                endAt(x, c[0]);
                check.due("2: STAGE " + stage + ", " + c[0] + " deep", x.ofField(0, 7),
                        stage <= 1 ? 0 : 100 - c[1]);
            }
            Subakhall dry = Hills.inStage(stage);
            while (dry.ofField(0, 1) > 3) {
                dry.day(0, 0, 0);
            }
            int before = dry.ofField(0, 7);
            dry.day(0, 0, 0);
            check.due("2: STAGE " + stage + ", no WATER", before - dry.ofField(0, 7), few[stage]);
        }
    }

    private static void hurtByTheWaterThatIsLeft() {
        // Ahead of what seeps and is drunk it is 4 and 23, and 5 and 24 deep.
        Subakhall x = Hills.inStage(2);
        endAt(x, 1);
        check.due("2: 4 come to 1", x.ofField(0, 7), 97);
        Subakhall y = Hills.inStage(2);
        endAt(y, 20);
        check.due("2: 23 come to 20", y.ofField(0, 7), 100);
    }

    private static void hurtByPests() {
        int[][] cases = {{19, 0}, {20, 1}, {39, 1}, {40, 2}, {59, 2}, {60, 3}, {79, 3}, {80, 4}, {99, 4}};
        for (int[] c : cases) {
            Subakhall x = Hills.growing(2, 1);
            Hills.breed(x, 0, c[0]);
            int before = x.ofField(0, 7);
            Hills.rain(x, 0);
            check.due("2: \"by its PESTS, divided by 20\": " + c[0], before - x.ofField(0, 7), c[1]);
        }
    }

    private static void hurtByBoth() {
        Subakhall dry = Hills.growing(2, 1);
        Hills.breed(dry, 0, 41);
        while (dry.ofField(0, 1) > 2) {
            dry.ducks(0, dry.ofField(0, 8) > 41);
            dry.day(0, 0, 0);
        }
        int before = dry.ofField(0, 7);
        int pests = dry.ofField(0, 8);
        dry.day(0, 0, 0);
        check.due("2: by WATER and by PESTS", before - dry.ofField(0, 7), 3 + pests / 20);
        check.due("2: there are PESTS that hurt", pests >= 20, true);
        Subakhall wet = Check.planted(2);
        Check.breed(wet, 12, false);
        check.due("2: PESTS", wet.ofField(0, 8), 37);
        before = wet.ofField(0, 7);
        Check.dayTo(wet, 21, 0);
        check.due("2: by 2 and by 1", before - wet.ofField(0, 7), 3);
    }

    private static void hurtTo0() {
        // KIND 0 dry in the STAGE 3: 6 less a day, 100 down to 4, then 0.
        Subakhall x = Hills.inStage(3);
        endAt(x, 2);
        for (int i = 1; i <= 16; i++) {
            x.day(0, 0, 0);
            check.due("2: 6 less", x.ofField(0, 7), 100 - 6 * i);
        }
        x.day(0, 0, 0);
        check.due("2: \"0 at least\"", x.ofField(0, 7), 0);
        Subakhall y = Hills.inStage(2);
        endAt(y, 2);
        for (int i = 0; i < 32; i++) {
            y.day(0, 0, 0);
        }
        endAt(y, 21);
        endAt(y, 21);
        check.due("2: 32 times 3 and 2 times 2", y.ofField(0, 7), 0);
    }

    private static void hurtByTheStageAhead() {
        Subakhall x = Hills.inStage(2);
        x.day(60, 40, 0);
        x.day(0, 20, 0);
        check.due("2: it flowers as the DAY ends", x.ofField(0, 4), 3);
        check.due("2: \"by the STAGE that it has\" as it is hurt", x.ofField(0, 7), 96);
        x.day(0, 0, 0);
        check.due("2: by 4 from then on", x.ofField(0, 7), 92);
    }

    private static void stageByStage() {
        int[][] asks = {{60, 100, 150}, {80, 140, 200}, {100, 180, 260}};
        for (int kind = 0; kind < 3; kind++) {
            for (int next = 0; next < 3; next++) {
                Subakhall x = Hills.growing(kind, 1);
                x.ducks(0, true);
                while (x.ofField(0, 6) < asks[kind][next] - 1) {
                    Hills.rain(x, Math.min(40, asks[kind][next] - 1 - x.ofField(0, 6)));
                }
                check.due("2: one less", x.ofField(0, 6), asks[kind][next] - 1);
                check.due("2: KIND " + kind + " ahead of " + asks[kind][next], x.ofField(0, 4), 2 + next);
                Hills.rain(x, 0);
                check.due("2: WARMTH of 0 changes no STAGE", x.ofField(0, 4), 2 + next);
                Hills.rain(x, 1);
                check.due("2: SUM", x.ofField(0, 6), asks[kind][next]);
                check.due("2: \"as much as its KIND asks\"", x.ofField(0, 4), 3 + next);
            }
            orMore(kind, asks[kind]);
        }
    }

    private static void orMore(int kind, int[] asks) {
        for (int next = 0; next < 3; next++) {
            Subakhall x = Hills.growing(kind, 1);
            while (x.ofField(0, 6) < asks[next] - 1) {
                Hills.rain(x, Math.min(40, asks[next] - 1 - x.ofField(0, 6)));
            }
            Hills.rain(x, 40);
            check.due("2: \"or more\"", x.ofField(0, 6), asks[next] + 39);
            check.due("2: no STAGE is left out", x.ofField(0, 4), 3 + next);
        }
    }

    private static void warmthOf0() {
        for (int stage = 0; stage <= 5; stage++) {
            Subakhall x = Hills.inStage(stage);
            int sum = x.ofField(0, 6);
            x.day(3, 0, 0);
            check.due("2: SUM in the STAGE " + stage + " by 0", x.ofField(0, 6), sum);
            check.due("2: the STAGE " + stage + " by 0", x.ofField(0, 4), stage);
            x.day(3, 1, 0);
            check.due("2: SUM in the STAGE " + stage + " by 1", x.ofField(0, 6),
                    stage >= 2 && stage <= 4 ? sum + 1 : sum);
        }
    }

    private static void nitrogen() {
        for (int stage = 0; stage <= 5; stage++) {
            Subakhall x = Hills.inStage(stage);
            int before = x.ofField(0, 9);
            x.day(3, 0, 0);
            check.due("2: NITROGEN in the STAGE " + stage, before - x.ofField(0, 9),
                    stage >= 2 && stage <= 4 ? 1 : 0);
        }
        Subakhall x = Hills.inStage(4);
        int before = x.ofField(0, 9);
        x.day(3, 40, 0);
        x.day(3, 10, 0);
        check.due("2: RIPE as the DAY ends", x.ofField(0, 4), 5);
        check.due("2: then it takes none", before - x.ofField(0, 9), 1);
        Subakhall y = Hills.growing(2, 1);
        y.ducks(0, true);
        for (int i = 0; i < 19; i++) {
            Hills.rain(y, 0);
        }
        check.due("2: NITROGEN of 1", y.ofField(0, 9), 1);
        Hills.rain(y, 0);
        check.due("2: NITROGEN of 0", y.ofField(0, 9), 0);
        Hills.rain(y, 0);
        check.due("2: \"if there is some\"", y.ofField(0, 9), 0);
    }

    private static void quarter() {
        int[][] cases = {{0, 1}, {1, 2}, {2, 3}, {3, 4}, {4, 6}, {7, 9}, {8, 11}, {11, 14}, {12, 16}};
        for (int[] c : cases) {
            Subakhall x = Hills.growing(2, 1);
            Hills.breed(x, 0, c[0]);
            check.due("2: PESTS ahead", x.ofField(0, 8), c[0]);
            Hills.rain(x, 0);
            check.due("2: \"1 more, and a quarter of what there were\"", x.ofField(0, 8), c[1]);
        }
        for (int stage = 2; stage <= 4; stage++) {
            Subakhall x = Hills.inStage(stage);
            x.ducks(0, false);
            x.day(3, 0, 0);
            check.due("2: 1 more in the STAGE " + stage, x.ofField(0, 8), 1);
        }
    }

    private static void held() {
        int[][] cases = {{78, 98}, {79, 99}, {80, 99}, {98, 99}, {99, 99}};
        for (int[] c : cases) {
            Subakhall x = Hills.growing(2, 1);
            Hills.breed(x, 0, c[0]);
            check.due("2: PESTS ahead", x.ofField(0, 8), c[0]);
            Hills.rain(x, 0);
            check.due("2: \"held to 0 to 99\"", x.ofField(0, 8), c[1]);
        }
    }

    private static void ripeBreedsNone() {
        for (int pests : new int[] {0, 1, 4, 20, 99}) {
            Subakhall x = Hills.growing(0, 1);
            x.ducks(0, true);
            Hills.rain(x, 40, 40, 40, 29);
            Hills.breed(x, 0, pests);
            check.due("2: PESTS a DAY ahead", x.ofField(0, 4) * 100 + x.ofField(0, 8), 400 + pests);
            Hills.rain(x, 1);
            check.due("2: a DAY that ends RIPE breeds none", x.ofField(0, 4) * 100 + x.ofField(0, 8), 500 + pests);
            Hills.rain(x, 1);
            check.due("2: nor does one behind it", x.ofField(0, 4) * 100 + x.ofField(0, 8), 500 + pests);
        }
    }

    private static void halved() {
        int[][] cases = {{0, 0}, {1, 0}, {2, 1}, {3, 1}, {99, 49}};
        for (int[] c : cases) {
            Subakhall x = Hills.ripeWith(c[0]);
            Hills.rain(x, 0);
            check.due("2: RIPE, they stay", x.ofField(0, 8), c[0]);
            x.harvest(0, false);
            Hills.rain(x, 0);
            check.due("2: FALLOW, half of " + c[0], x.ofField(0, 8), c[1]);
            Subakhall y = Hills.ripeWith(c[0]);
            y.harvest(0, false);
            y.puddle(0);
            Hills.rain(y, 0);
            check.due("2: PUDDLED, half of " + c[0], y.ofField(0, 8), c[1]);
        }
    }

    private static void ducks() {
        int[][] growing = {{0, 0}, {1, 0}, {2, 0}, {3, 0}, {4, 2}, {14, 14}, {84, 99}, {99, 99}};
        for (int[] c : growing) {
            Subakhall x = Hills.growing(2, 1);
            Hills.breed(x, 0, c[0]);
            x.ducks(0, true);
            Hills.rain(x, 0);
            check.due("2: with DUCKS \"4 less then\", held behind that: " + c[0], x.ofField(0, 8), c[1]);
        }
        int[][] ripe = {{3, 0}, {4, 0}, {5, 1}, {99, 95}};
        for (int[] c : ripe) {
            Subakhall x = Hills.ripeWith(c[0]);
            x.ducks(0, true);
            Hills.rain(x, 0);
            check.due("2: \"with DUCKS, in any STAGE\", RIPE: " + c[0], x.ofField(0, 8), c[1]);
        }
        int[][] fallow = {{7, 0}, {9, 0}, {10, 1}, {99, 45}};
        for (int[] c : fallow) {
            for (int puddled = 0; puddled <= 1; puddled++) {
                Subakhall x = Hills.ripeWith(c[0]);
                x.harvest(0, false);
                if (puddled == 1) {
                    x.puddle(0);
                }
                x.ducks(0, true);
                Hills.rain(x, 0);
                check.due("2: half, then 4 less, STAGE " + puddled + ": " + c[0], x.ofField(0, 8), c[1]);
            }
        }
    }

    private static void stageAsTheDayEnds() {
        Subakhall x = Hills.growing(0, 1);
        Hills.breed(x, 0, 8);
        Hills.rain(x, 40, 40, 40);
        check.due("2: 8, 11, 14, 18", x.ofField(0, 8), 18);
        Hills.rain(x, 30);
        check.due("2: RIPE as the DAY ends", x.ofField(0, 8), 18);
        Subakhall y = Hills.inStage(4);
        y.day(3, 40, 0);
        check.due("2: held at 0 by DUCKS", y.ofField(0, 8), 0);
    }

    private static void plantedByDay() {
        Subakhall x = Hills.growing(2, 1);
        check.due("2: none when planted", x.ofField(0, 8), 0);
        Hills.rain(x, 0);
        check.due("2: 1 on the DAY behind", x.ofField(0, 8), 1);
        check.due("2: NITROGEN taken on that DAY", x.ofField(0, 9), 19);
    }

    /** PESTS of the first as told; more FIELDS are planted behind that. */
    private static Subakhall bredBeside(int fields, int bred, int pests, int... planted) {
        Subakhall x = Hills.puddled(1, new int[fields]);
        Check.helpAndPlant(x, bred, 2);
        Hills.breed(x, bred, pests);
        if (x.many(4) == 1) {
            throw new IllegalStateException("a dark day: choose other pests");
        }
        for (int f : planted) {
            Check.helpAndPlant(x, f, 2);
            x.ducks(f, true);
        }
        return x;
    }

    private static void flyAbove20() {
        // With ducks 18 breed to 23 less 4, and 19 to 24 less 4; without them 16 breed to 21.
        int[][] cases = {{18, 1, 19, 0}, {19, 1, 20, 0}, {16, 0, 17, 4}};
        for (int[] c : cases) {
            Subakhall x = bredBeside(2, 0, c[0], 1);
            x.ducks(0, c[1] == 1);
            Hills.rain(x, 0);
            check.due("2: \"with more than 20\", from " + c[0], x.ofField(0, 8), c[2]);
            check.due("2: to the next", x.ofField(1, 8), c[3]);
        }
    }

    private static void fifth() {
        // 18 breed to 23, 19 to 24, 20 to 26, 19 to 24 less 4, 23 to 29, 24 to 31, 23 less 4 to 25.
        int[][] cases = {{18, 0, 23, 4}, {19, 0, 24, 4}, {20, 0, 26, 5}, {23, 1, 25, 5}, {23, 0, 29, 5},
            {24, 1, 27, 5}, {79, 0, 99, 19}};
        for (int[] c : cases) {
            Subakhall x = bredBeside(2, 0, c[0], 1);
            x.ducks(0, c[1] == 1);
            Hills.rain(x, 0);
            check.due("2: \"a fifth goes\" of " + c[2], x.ofField(0, 8), c[2] - c[3]);
            check.due("2: a fifth of " + c[2] + " has come", x.ofField(1, 8), c[3]);
        }
    }

    private static void toTheNearest() {
        Subakhall up = bredBeside(5, 4, 23, 0, 2);
        Hills.rain(up, 0);
        check.due("2: the nearest smaller number", up.ofField(2, 8), 5);
        check.due("2: not the farther one", up.ofField(0, 8), 0);
        check.due("2: without a greater one a fifth alone", up.ofField(4, 8), 24);
        Subakhall down = bredBeside(5, 0, 23, 2, 4);
        Hills.rain(down, 0);
        check.due("2: the nearest greater number", down.ofField(2, 8), 5);
        check.due("2: not the farther one", down.ofField(4, 8), 0);
        check.due("2: without a smaller one a fifth alone", down.ofField(0, 8), 24);
        Subakhall far = bredBeside(12, 11, 23, 0);
        Hills.rain(far, 0);
        check.due("2: from the last to the first", far.ofField(0, 8), 5);
        Subakhall none = bredBeside(12, 5, 23);
        Hills.rain(none, 0);
        check.due("2: \"if there is such a one\"", none.ofField(5, 8), 29);
        check.due("2: all PESTS are there", none.many(5), 29);
    }

    private static void toTheStages2To4() {
        // Field 0 ripens as the warmths say, with ducks; field 1 is bred beside it, with the same warmth.
        int[][] warmths = {{}, {40, 20}, {40, 20, 40}, {40, 20, 40, 40, 10}};
        for (int stage = 0; stage <= 5; stage++) {
            Subakhall x = Hills.of(1, Hills.BUND, 0, 0);
            x.day(0, 0, 30);
            x.puddle(1);
            Check.helpAndPlant(x, 1, 2);
            Hills.breed(x, 1, 8);
            if (stage >= 1) {
                x.puddle(0);
            }
            if (stage >= 2) {
                Check.helpAndPlant(x, 0, 0);
                x.ducks(0, true);
                for (int warmth : warmths[stage - 2]) {
                    x.ducks(1, x.ofField(1, 8) > 10);
                    Hills.rain(x, warmth);
                }
            }
            flyToIt(x, stage);
        }
    }

    private static void flyToIt(Subakhall x, int stage) {
        x.ducks(1, false);
        while (x.ofField(1, 8) < 16) {
            Hills.rain(x, 0);
        }
        int ahead = x.ofField(1, 8);
        int bred = ahead + 1 + ahead / 4;
        check.due("2: none flew so far", ahead <= 20 && x.ofField(0, 8) == 0, true);
        Hills.rain(x, 0);
        boolean isGoal = stage >= 2 && stage <= 4;
        check.due("2: the STAGE of the goal", x.ofField(0, 4), stage);
        check.due("2: to one in the STAGE " + stage, x.ofField(0, 8), isGoal ? bred / 5 : 0);
        check.due("2: what is left", x.ofField(1, 8), isGoal ? bred - bred / 5 : bred);
    }

    private static void fromAnyStage() {
        // Field 0 is RIPE, then FALLOW, then PUDDLED; field 1 grows with ducks.
        Subakhall x = Hills.puddled(1, 0, 0);
        Check.helpAndPlant(x, 0, 0);
        Hills.breed(x, 0, 99);
        x.day(0, 40, Hills.RAIN);
        x.day(0, 40, Hills.RAIN);
        x.day(0, 40, Hills.RAIN);
        x.day(0, 30, Hills.RAIN);
        check.due("2: RIPE, with 99", x.ofField(0, 4) * 100 + x.ofField(0, 8), 599);
        if (x.many(4) == 1) {
            Hills.rain(x, 0);
        }
        Check.helpAndPlant(x, 1, 2);
        x.ducks(1, true);
        Hills.rain(x, 0);
        check.due("2: a fifth of 99 leaves the RIPE one", x.ofField(0, 8), 80);
        check.due("2: and comes", x.ofField(1, 8), 19);
        x.harvest(0, false);
        Hills.rain(x, 0);
        // 80 are halved, and 8 of 40 fly; 19 bred to 24 less 4, which stay.
        check.due("2: a fifth of 40 leaves the FALLOW one", x.ofField(0, 8), 32);
        check.due("2: the other had 20", x.ofField(1, 8), 28);
    }

    private static void bothWays() {
        Subakhall x = bredBeside(3, 1, 23, 0, 2);
        Hills.rain(x, 0);
        check.due("2: a fifth to each side", x.ofField(1, 8), 19);
        check.due("2: to the smaller number", x.ofField(0, 8), 5);
        check.due("2: to the greater number", x.ofField(2, 8), 5);
        check.due("2: none is lost", x.many(5), 29);
    }

    private static void allAtOnce() {
        Subakhall x = Hills.growing(2, 3);
        int[] alone = {1, 2, 3, 4, 6, 8, 11, 14, 18, 23, 29, 37, 47, 59, 74, 93, 99};
        for (int pests : alone) {
            Hills.rain(x, 0);
            for (int f = 0; f < 3; f++) {
                check.due("2: as many come as leave, FIELD " + f, x.ofField(f, 8), pests);
            }
        }
        Subakhall y = bredBeside(3, 0, 23, 1, 2);
        y.ducks(1, false);
        y.ducks(2, false);
        // Of 29, 31 and 32 there fly 5, 6 and 6 to field 1, that has 1, 8 and 18 of its own.
        Hills.rain(y, 0, 0, 0);
        check.due("2: 25 bred to 32, less 6", y.ofField(0, 8), 26);
        check.due("2: 18 and 6, and \"by what there was ahead of that\" none flies on", y.ofField(1, 8), 24);
        check.due("2: none has come to the third", y.ofField(2, 8), 3);
        Hills.rain(y, 0);
        // 26 bred to 33, 24 to 31, 3 to 4.
        check.due("2: 6 leave and 6 come", y.ofField(0, 8), 33);
        check.due("2: 12 leave and 6 come", y.ofField(1, 8), 25);
        check.due("2: 6 come", y.ofField(2, 8), 10);
    }

    private static void ofAnySociety() {
        Subakhall x = Hills.puddled(3, 0, 1, 2);
        Check.helpAndPlant(x, 1, 2);
        Hills.breed(x, 1, 23);
        Check.helpAndPlant(x, 0, 2);
        Check.helpAndPlant(x, 2, 2);
        Hills.rain(x, 0);
        check.due("2: \"of any SOCIETY\", the smaller number", x.ofField(0, 8), 6);
        check.due("2: \"of any SOCIETY\", the greater number", x.ofField(2, 8), 6);
    }

    private static void ninetyNineAtMost() {
        // Field 0 is RIPE with 99, as field 1 grows with 99 and has nobody to fly to.
        Subakhall x = Hills.puddled(1, 0, 0);
        Check.helpAndPlant(x, 0, 0);
        Hills.breed(x, 0, 99);
        if (x.many(4) == 1) {
            Hills.rain(x, 0);
        }
        Check.helpAndPlant(x, 1, 2);
        for (int i = 0; i < 20; i++) {
            Hills.rain(x, 0);
        }
        check.due("2: 99 of both", x.ofField(0, 8) + x.ofField(1, 8), 198);
        Hills.rain(x, 40, 40, 40, 30);
        check.due("2: RIPE with a fifth less", x.ofField(0, 4) * 100 + x.ofField(0, 8), 580);
        check.due("2: \"then 99 at most are left in each\"", x.ofField(1, 8), 99);
        Hills.rain(x, 0);
        check.due("2: 16 of 80", x.ofField(0, 8), 64);
        check.due("2: 99 yet", x.ofField(1, 8), 99);
    }
}
