import java.util.Random;

/** Promises 26 to 29: the first and the last DAY that are asked for, and what is answered of nothing. */
public final class WouldBeEdgesTest {
    private static final Check check = new Check("WouldBeEdgesTest");

    public static void main(String[] args) {
        aheadOfTheFirstDay();
        ripeToTheDay();
        ripeAlready();
        ripeInTheSooner();
        byTheLastDay();
        overTheEdgeOfAWindow();
        planOfNothing();
        planToTheDay();
        planOfEachSociety();
        planOfFewerSocieties();
        planOfAllFieldsTogether();
        planWhateverIsThere();
        planWithGatesAsTheyAre();
        planOfTheStagesThen();
        planByTheRest();
        planLeavesDaysDry();
        nothingIsChanged();
        digestToTheDay();
        digestOfTheGreatest();
        check.end();
    }

    private static void aheadOfTheFirstDay() {
        Subakhall x = Hills.of(3, 60, 0, 1, 2);
        Hills.open(x, 0, 1, 2);
        check.due("26: \"(0, ahead of the first one)\"", x.wouldYield(0, 40), 0);
        check.due("27: NONE without WARMTH", x.ripeIn(40), -1);
        check.due("28: without WARMTH the smallest", x.plan(0, 30), 0);
        check.due("26: the DAY is 0 yet", x.many(2), 0);
        Subakhall none = new Subakhall();
        check.due("27: NONE without FIELDS", none.ripeIn(1), -1);
        check.due("29: of nothing", none.digest(), WouldBeTest.digestByCalls(none));
    }

    /** A FIELD of KIND 0 that lacks as many DAYS of the last one's WARMTH to be RIPE. */
    private static Subakhall lacking(int days) {
        int warmth = Math.min(40, 150 / (days + 1));
        Subakhall x = Hills.growing(0, 1);
        x.ducks(0, true);
        int ahead = 150 - days * warmth - warmth;
        while (ahead > 0) {
            int step = Math.min(40, ahead);
            Hills.rain(x, step);
            ahead -= step;
        }
        Hills.rain(x, warmth);
        check.due("26: SUM", x.ofField(0, 6), 150 - days * warmth);
        return x;
    }

    private static void ripeToTheDay() {
        for (int days = 1; days <= 40; days++) {
            Subakhall x = lacking(days);
            int would = x.wouldYield(0, days);
            check.due("26: RIPE in " + days, would > 0, true);
            check.due("27: RIPE in " + days + " of 40", x.ripeIn(40), days);
            check.due("27: RIPE in " + days + " of as many", x.ripeIn(days), days);
            if (days > 1) {
                check.due("26: a DAY too few of " + days, x.wouldYield(0, days - 1), 0);
                check.due("27: NONE in a DAY less than " + days, x.ripeIn(days - 1), -1);
            }
            if (days < 40) {
                check.due("26: a DAY more than " + days, x.wouldYield(0, days + 1), would);
            }
            int warmth = Math.min(40, 150 / (days + 1));
            for (int i = 0; i < days; i++) {
                check.due("26: not RIPE so far", x.ofField(0, 10), 0);
                Hills.rain(x, warmth);
            }
            check.due("26: as it comes in " + days, x.ofField(0, 10), would);
        }
        Subakhall late = Hills.growing(0, 1);
        late.ducks(0, true);
        Hills.rain(late, 26, 3);
        check.due("26: RIPE in 41", late.wouldYield(0, 40), 0);
        check.due("27: NONE of 40", late.ripeIn(40), -1);
    }

    private static void ripeAlready() {
        Subakhall x = Hills.growing(0, 1);
        Hills.ripen(x, 5);
        check.due("26: RIPE now, for 1 DAY", x.wouldYield(0, 1), 26);
        check.due("26: RIPE now, for 40 DAYS", x.wouldYield(0, 40), 26);
        check.due("27: \"that is not now\"", x.ripeIn(40), -1);
        x.harvest(0, true);
        check.due("26: FALLOW", x.wouldYield(0, 40), 0);
        check.due("27: nobody plants it", x.ripeIn(40), -1);
        x.puddle(0);
        check.due("26: PUDDLED", x.wouldYield(0, 40), 0);
    }

    private static void ripeInTheSooner() {
        Subakhall x = Hills.puddled(2, 0, 1, 0);
        Check.helpAndPlant(x, 0, 2);
        Hills.rain(x, 10);
        Check.helpAndPlant(x, 1, 0);
        Hills.rain(x, 10);
        // KIND 2 has 20 of 260, KIND 0 has 10 of 150.
        check.due("27: the sooner one, of any number", x.ripeIn(40), 14);
        for (int i = 0; i < 14; i++) {
            Hills.rain(x, 10);
        }
        check.due("27: it is RIPE", x.ofField(1, 4), 5);
        check.due("27: the next one", x.ripeIn(40), 10);
        check.due("27: the next one of 10", x.ripeIn(10), 10);
        check.due("27: NONE of 9", x.ripeIn(9), -1);
    }

    private static void byTheLastDay() {
        // Without WATER of its own it depends on what comes each DAY.
        for (int which = 0; which < 2; which++) {
            Subakhall x = Hills.inStage(2);
            while (x.ofField(0, 1) > 4) {
                x.day(0, 0, 0);
            }
            int flow = which == 0 ? 3 : 0;
            x.day(flow, 38, 3 - flow);
            check.due("26: its FLOW or RAIN", x.wouldYield(0, 3) > 0, true);
            int well = x.wouldYield(0, 3);
            for (int[] wrong : new int[][] {{201, 0, 0}, {0, 41, 0}, {0, 0, 31}, {-1, 0, 0}}) {
                check.badArgument("13: a refused DAY", x, () -> x.day(wrong[0], wrong[1], wrong[2]));
            }
            check.due("26: a refused DAY is not the last one", x.wouldYield(0, 3), well);
            x.day(0, 38, 0);
            check.due("26: \"of the last one\": now without", x.wouldYield(0, 2) < well, true);
            x.day(0, 0, 0);
            check.due("26: now without WARMTH", x.wouldYield(0, 40), 0);
        }
    }

    private static void overTheEdgeOfAWindow() {
        // The WINDOW shuts behind the DAY 5, or the DAY 209 is the last of the TEMPLE'S year.
        int[][] cases = {{0, 6, 1}, {200, 20, 200}, {0, 5, 207}, {208, 4, 207}};
        for (int[] c : cases) {
            Subakhall x = new Subakhall();
            x.society(1, 0, c[0], c[1]);
            x.field(0, 1, Hills.BUND);
            x.ducks(0, true);
            while (x.many(2) < c[2] - 1) {
                x.day(0, 0, 0);
            }
            x.day(0, 0, 30);
            x.puddle(0);
            Check.helpAndPlant(x, 0, 2);
            x.gate(0, true);
            while (x.ofField(0, 1) > 5) {
                x.day(0, 0, 0);
            }
            x.day(3, 20, 0);
            int[] would = new int[14];
            for (int days = 1; days < would.length; days++) {
                would[days] = x.wouldYield(0, days);
            }
            check.due("26: there is a YIELD", would[13] > 0, true);
            for (int days = 1; days < would.length; days++) {
                x.day(3, 20, 0);
                check.due("26: as it comes over the edge of a WINDOW", x.ofField(0, 10), would[days]);
            }
        }
    }

    /** A FIELD stands best if planted at once, after 5, or after 10 DAYS, by its BUND. */
    private static final int[] BUND_FOR = {24, 40, 48};

    private static Subakhall deep(int... putOffs) {
        Subakhall x = new Subakhall();
        for (int s = 0; s < putOffs.length; s++) {
            x.society(1, 0, 0, 210);
            if (putOffs[s] >= 0) {
                x.field(s, 1, BUND_FOR[putOffs[s]]);
            }
        }
        x.day(0, 0, 30);
        x.day(0, 0, 30);
        x.day(0, 40, 0);
        return x;
    }

    /** 38 deep: planted at once it is flooded each day, after 5 DAYS at first, after 10 not at all. */
    private static Subakhall betterAndBetter() {
        Subakhall x = Hills.of(1, 42, 0);
        x.day(0, 0, 30);
        x.day(0, 0, 30);
        x.day(0, 40, 0);
        check.due("28: 38 deep", x.ofField(0, 1), 38);
        return x;
    }

    private static void planOfNothing() {
        Subakhall none = new Subakhall();
        none.day(9, 40, 9);
        check.due("28: without SOCIETIES", none.plan(0, 30), 0);
        Subakhall bare = Hills.of(3, 60);
        bare.day(9, 40, 9);
        check.due("28: without FIELDS", bare.plan(0, 30), 0);
        Subakhall grown = Hills.growing(0, 1);
        Hills.rain(grown, 40);
        check.due("28: as it grows already, \"of several the smallest one\"", grown.plan(2, 30), 0);
        Hills.rain(grown, 40, 40, 30);
        check.due("28: as it is RIPE", grown.plan(2, 30), 0);
    }

    private static void planToTheDay() {
        // KIND 0 is RIPE in 4 DAYS of 40, KIND 1 in 5, KIND 2 in 7.
        int[] lasts = {4, 5, 7};
        for (int kind = 0; kind <= 2; kind++) {
            for (int putOff = 1; putOff <= 2; putOff++) {
                Subakhall x = betterAndBetter();
                int days = 5 * putOff + lasts[kind];
                check.due("28: KIND " + kind + " is not RIPE in " + (days - 1), x.plan(kind, days - 1), putOff - 1);
                check.due("28: KIND " + kind + " is RIPE in " + days, x.plan(kind, days), putOff);
            }
        }
        Subakhall x = betterAndBetter();
        for (int days = 1; days <= 8; days++) {
            check.due("28: put off by 5 it is not RIPE in " + days, x.plan(0, days), 0);
        }
        for (int days = 9; days <= 13; days++) {
            check.due("28: put off by 10 it is not RIPE in " + days, x.plan(0, days), 1);
        }
        for (int days = 14; days <= 18; days++) {
            check.due("28: put off by 10 it is RIPE in " + days, x.plan(0, days), 2);
        }
        check.due("28: of 30 DAYS", x.plan(0, 30), 2);
    }

    private static void planOfEachSociety() {
        for (int plan = 0; plan < 27; plan++) {
            Subakhall x = deep(plan % 3, plan / 3 % 3, plan / 9);
            check.due("28: \"the sum over SOCIETIES of 3^s times what s puts off\"", x.plan(0, 14), plan);
        }
    }

    private static void planOfFewerSocieties() {
        for (int plan = 0; plan < 3; plan++) {
            check.due("28: of one", deep(plan).plan(0, 14), plan);
        }
        for (int plan = 0; plan < 9; plan++) {
            check.due("28: of two", deep(plan % 3, plan / 3).plan(0, 14), plan);
        }
        check.due("28: one without FIELDS puts off nothing", deep(-1, 2, -1).plan(0, 14), 6);
        check.due("28: two with FIELDS", deep(2, -1, 2).plan(0, 14), 20);
    }

    private static void planOfAllFieldsTogether() {
        // Two FIELDS of the same SOCIETY: one is best at once, the other after 10 DAYS.
        Subakhall x = new Subakhall();
        x.society(1, 0, 0, 210);
        x.field(0, 1, 24);
        for (int f = 0; f < 4; f++) {
            x.field(0, 1, 48);
        }
        x.day(0, 0, 30);
        x.day(0, 0, 30);
        x.day(0, 40, 0);
        check.due("28: four of five gain by it", x.plan(0, 14), 2);
        Subakhall y = new Subakhall();
        y.society(1, 0, 0, 210);
        for (int f = 0; f < 5; f++) {
            y.field(0, 1, f == 0 ? 48 : 24);
        }
        y.day(0, 0, 30);
        y.day(0, 0, 30);
        y.day(0, 40, 0);
        check.due("28: four of five lose by it", y.plan(0, 14), 0);
    }

    private static void planWhateverIsThere() {
        // On the DARK DAY 30 a FALLOW FIELD is dry, without HELP; its WINDOW opens on the DAY 36.
        Subakhall x = new Subakhall();
        x.society(1, 0, 36, 100);
        x.field(0, 1, 60);
        x.gate(0, true);
        for (int i = 0; i < 29; i++) {
            x.day(0, 0, 0);
        }
        x.day(9, 40, 0);
        check.due("28: a DARK DAY", x.many(4), 1);
        check.due("28: no WATER, and CRACKS", x.ofField(0, 1) * 10 + x.ofField(0, 2), 3);
        check.due("28: \"whatever WATER, HELP and DARK are\"", x.plan(0, 9), 1);
        check.due("28: of 8 DAYS that does not ripen", x.plan(0, 8), 0);
        check.due("28: of 14 DAYS it does no better", x.plan(0, 14), 1);
        check.due("28: it has CRACKS yet", x.ofField(0, 2), 3);
        check.due("28: it is FALLOW yet", x.ofField(0, 4), 0);
    }

    private static void planWithGatesAsTheyAre() {
        Subakhall x = new Subakhall();
        x.society(1, 0, 36, 100);
        x.field(0, 1, 60);
        for (int i = 0; i < 29; i++) {
            x.day(0, 0, 0);
        }
        x.day(9, 40, 0);
        check.due("28: behind a shut GATE it is dry in any case", x.plan(0, 14), 0);
        x.gate(0, true);
        check.due("28: with an open one", x.plan(0, 14), 1);
    }

    private static void planOfTheStagesThen() {
        // In 3 DAYS each of these is RIPE, but none that was planted anew.
        for (int stage = 2; stage <= 5; stage++) {
            Subakhall x = Hills.growing(0, 1);
            for (int i = 2; i <= stage; i++) {
                Hills.rain(x, 40);
            }
            check.due("28: the STAGE", x.ofField(0, 4), stage);
            check.due("28: it would YIELD", x.wouldYield(0, 3), 26);
            check.due("28: in the STAGE " + stage + " it is not planted", x.plan(0, 3), 0);
        }
        // It is RIPE as 5 DAYS have passed, and not planted anew then.
        Subakhall later = Hills.growing(0, 1);
        Hills.rain(later, 20);
        later.day(0, 40, 3);
        check.due("28: RIPE in 3", later.ripeIn(5), 3);
        check.due("28: \"in the STAGE 0 or 1 then\"", later.plan(0, 8), 0);
        growsAlready();
        Subakhall y = deep(2, 2);
        y.puddle(0);
        check.due("28: in the STAGE 1 and 0", y.plan(0, 14), 8);
        Check.helpAndPlant(y, 0, 0);
        check.due("28: in the STAGE 2 it is not planted", y.plan(0, 14), 6);
    }

    /** If it were planted, 38 or 36 deep, it would be better later, when it is not so deep. */
    private static void growsAlready() {
        Subakhall x = betterAndBetter();
        x.puddle(0);
        check.due("28: in the STAGE 1", x.plan(0, 14), 2);
        Check.helpAndPlant(x, 0, 2);
        check.due("28: GROWING with a SUM of 0 it is not planted", x.plan(0, 14), 0);
        Subakhall y = Hills.of(1, 42, 0);
        y.day(0, 0, 30);
        y.day(0, 0, 30);
        y.puddle(0);
        Check.helpAndPlant(y, 0, 2);
        y.ducks(0, true);
        for (int i = 0; i < 50; i++) {
            y.day(0, 0, 10);
        }
        y.day(0, 40, 0);
        check.due("28: VIGOUR of 0, and 36 deep", y.ofField(0, 7) * 100 + y.ofField(0, 1), 36);
        check.due("28: with a VIGOUR of 0 it is not planted", y.plan(0, 9), 0);
    }

    private static void planByTheRest() {
        // A REST of 200 comes on the first DAY and fills it: 38 deep it stands best after 10 DAYS.
        Subakhall x = new Subakhall();
        x.day(200, 0, 0);
        x.day(0, 40, 0);
        x.society(1, 0, 0, 210);
        x.field(0, 1, 38);
        x.gate(0, true);
        check.due("28: the REST", x.water(2), 200);
        check.due("28: by the REST it is flooded at once", x.plan(0, 14), 2);
        check.due("28: each plan has that REST", x.plan(0, 14), 2);
        x.gate(0, false);
        check.due("28: behind a shut GATE it is dry in any case", x.plan(0, 14), 0);
        check.due("28: the REST is there yet", x.water(2), 200);
    }

    /**
     * Two FIELDS are DRY for 11 days; on the DAY 12 the WINDOW is shut, and then 5 come to each. If
     * they are planted at once, they crack on the 12th DRY day, which hurts them by 6 in all, not 3.
     * The FIELD between them loses 2 of its YIELD if put off by 5, as each of the two gains by it:
     * by 2 each, and not by 1.
     */
    private static void planLeavesDaysDry() {
        Subakhall x = new Subakhall();
        x.society(1, 0, 13, 209);
        for (int f = 0; f < 3; f++) {
            x.field(0, 1, 60);
        }
        x.gate(1, true);
        for (int day = 1; day <= 10; day++) {
            x.day(day <= 4 ? 3 : 2, 0, 0);
        }
        x.day(10, 40, 0);
        check.due("28: DRY", x.ofField(0, 3) * 100 + x.ofField(2, 3), 1111);
        check.due("28: 12 deep", x.ofField(1, 1), 12);
        Hills.shut(x, 1);
        Hills.open(x, 0, 2);
        check.due("28: of 8 DAYS", x.plan(0, 8), 0);
        check.due("28: the days DRY are as they are", x.plan(0, 9), 1);
    }

    private static void nothingIsChanged() {
        for (int seed = 0; seed < 40; seed++) {
            Random random = new Random(seed);
            Subakhall asked = motley();
            Subakhall left = motley();
            for (int i = 0; i < 60; i++) {
                asked.wouldYield(random.nextInt(5), 1 + random.nextInt(40));
                asked.ripeIn(1 + random.nextInt(40));
                asked.plan(random.nextInt(3), 1 + random.nextInt(30));
                int[] weather = {random.nextInt(60), random.nextInt(41), random.nextInt(6)};
                asked.day(weather[0], weather[1], weather[2]);
                left.day(weather[0], weather[1], weather[2]);
                int field = random.nextInt(5);
                if (left.ofField(field, 4) == 5) {
                    check.due("\"nothing is changed\": the HARVEST", asked.harvest(field, true), left.harvest(field, true));
                }
            }
            check.due("\"nothing is changed\"", asked.digest(), left.digest());
        }
    }

    private static Subakhall motley() {
        Subakhall x = Hills.puddled(2, 0, 1, 0, 1, 0);
        x.society(2, 20, 5, 30);
        for (int f = 0; f < 4; f++) {
            Check.helpAndPlant(x, f, f % 3);
            x.gate(f, true);
        }
        x.stones(3, 5);
        x.rotate(0, true);
        return x;
    }

    private static void digestToTheDay() {
        for (int days = 4; days <= 6; days++) {
            Subakhall x = lacking(days);
            check.due("29: wouldYield() of 5, RIPE in " + days, x.digest(), WouldBeTest.digestByCalls(x));
        }
        for (int days = 9; days <= 11; days++) {
            Subakhall x = lacking(days);
            check.due("29: ripeIn() of 10, RIPE in " + days, x.digest(), WouldBeTest.digestByCalls(x));
        }
        boolean[] differs = new boolean[2];
        for (int warmth = 19; warmth <= 26; warmth++) {
            Subakhall x = deep(1, 2);
            x.day(0, warmth, 0);
            check.due("29: plan() of 0 and 12", x.digest(), WouldBeTest.digestByCalls(x));
            differs[0] |= x.plan(0, 11) != x.plan(0, 12);
            differs[1] |= x.plan(0, 12) != x.plan(0, 13);
        }
        check.due("29: plans of 11, 12 and 13 DAYS were told apart", differs[0] && differs[1], true);
    }

    private static void digestOfTheGreatest() {
        Subakhall x = Hills.puddled(3, 0, 1, 2, 0, 1, 2, 0, 1, 2, 0, 1, 2);
        for (int f = 0; f < 12; f += 3) {
            Check.helpAndPlant(x, f, 0);
            x.gate(f, true);
        }
        x.stones(0, 5);
        Hills.rain(x, 40, 40, 33);
        x.day(100, 40, 5);
        x.cut(9);
        check.due("29: of 3 SOCIETIES and 12 FIELDS", x.digest(), WouldBeTest.digestByCalls(x));
    }
}
