/** Terms, 3: the edges of PUDDLING, PLANTING, HELP, YIELD, HARVEST and CUTS. */
public final class WorkEdgesTest {
    private static final Check check = new Check("WorkEdgesTest");

    public static void main(String[] args) {
        puddleByWater();
        puddleInVain();
        puddleByStage();
        puddleTakesCracks();
        plantByHelp();
        plantByStage();
        plantByKind();
        plantLeavesTheRest();
        help();
        yieldByStage();
        yieldIsRoundedDownTwice();
        yieldOfNothing();
        yieldOfMost();
        tenth();
        harvestByStage();
        harvestLeavesTheRest();
        straw();
        severalHarvests();
        cutByStage();
        cutsModulo21();
        cutsOfAllFields();
        cutOfZero();
        thoughtIsRounded();
        thoughtByAllCuts();
        thoughtSincePlanted();
        thoughtOfEachField();
        check.end();
    }

    private static void puddleByWater() {
        for (int depth = 0; depth <= 12; depth++) {
            Subakhall x = Check.oneField(60);
            x.day(depth + 2, 0, 0);
            check.due("7: WATER", x.ofField(0, 1), depth);
            if (depth < 10) {
                check.badState("7: \"or has less than 10\": " + depth, x, () -> x.puddle(0));
                check.due("7: it is FALLOW yet", x.ofField(0, 4), 0);
            } else {
                check.due("7: \"with WATER of 10 or more\"", x.puddle(0), depth);
                check.due("7: it is PUDDLED", x.ofField(0, 4), 1);
                check.due("7: and as deep", x.ofField(0, 1), depth);
            }
        }
    }

    private static void puddleInVain() {
        Subakhall x = Check.oneField(60);
        Hills.dry(x, 7);
        x.day(15, 0, 0);
        Hills.dry(x, 1);
        check.due("7: CRACKS ahead", x.ofField(0, 2), 2);
        check.due("7: WATER of less than 10", x.ofField(0, 1), 7);
        check.badState("7: refused", x, () -> x.puddle(0));
        check.due("7: its CRACKS stay", x.ofField(0, 2), 2);
        Hills.dry(x, 1);
        check.due("7: and 3 seep as ahead of it", x.ofField(0, 1), 3);
    }

    private static void puddleByStage() {
        for (int stage = 1; stage <= 5; stage++) {
            Subakhall x = Hills.inStage(stage);
            check.due("7: deep enough", x.ofField(0, 1) >= 10, true);
            check.badState("7: \"if it is not FALLOW\": " + stage, x, () -> x.puddle(0));
            check.due("7: the STAGE stays", x.ofField(0, 4), stage);
        }
    }

    private static void puddleTakesCracks() {
        for (int cracks = 0; cracks <= 3; cracks++) {
            Subakhall x = Check.oneField(60);
            Hills.dry(x, 3 * cracks);
            x.day(50, 0, 0);
            check.due("7: CRACKS ahead", x.ofField(0, 2), cracks);
            x.puddle(0);
            check.due("7: \"with no CRACKS\"", x.ofField(0, 2), 0);
            int sank = x.water(4) + x.water(6);
            x.day(0, 0, 0);
            check.due("7: 1 seeps from then on", x.water(4) + x.water(6) - sank, 1);
        }
    }

    private static void plantByHelp() {
        for (int help = 0; help <= 5; help++) {
            Subakhall x = Hills.puddled(1, 0, 0);
            for (int i = 1; i <= help; i++) {
                check.due("9: HELP then", x.help(1, 0), i);
            }
            if (help < 3) {
                check.badState("8: HELP of " + help, x, () -> x.plant(0, 0));
                check.due("8: HELP stays", x.ofField(0, 11), help);
                check.due("8: PUDDLED yet", x.ofField(0, 4), 1);
            } else {
                check.due("8: HELP \"of 3 or more\"", x.plant(0, 0), 1);
                check.due("8: \"and HELP 0\"", x.ofField(0, 11), 0);
                check.due("8: the ACCOUNTS stay", x.ofOwner(1, 1) - x.ofOwner(0, 1), 2 * help);
            }
        }
    }

    private static void plantByStage() {
        for (int stage = 0; stage <= 5; stage++) {
            Subakhall x = Hills.inStage(stage);
            x.help(0, 0);
            x.help(0, 0);
            x.help(0, 0);
            if (stage == 1) {
                check.due("8: a PUDDLED one", x.plant(0, 2), 1);
            } else {
                check.badState("8: \"if it is not PUDDLED\": " + stage, x, () -> x.plant(0, 2));
                check.due("8: the KIND stays", x.ofField(0, 5), stage == 0 ? -1 : 0);
            }
        }
    }

    private static void plantByKind() {
        for (int kind = 0; kind <= 2; kind++) {
            Subakhall x = Hills.growing(kind, 1);
            check.due("8: the KIND", x.ofField(0, 5), kind);
            check.due("8: GROWING", x.ofField(0, 4), 2);
        }
        Subakhall x = Hills.puddled(1, 0);
        x.help(0, 0);
        x.help(0, 0);
        x.help(0, 0);
        for (int wrong : new int[] {-1, 3, Integer.MIN_VALUE, Integer.MAX_VALUE}) {
            check.badArgument("8: KIND " + wrong, x, () -> x.plant(0, wrong));
        }
        check.due("8: the HELP is there yet", x.plant(0, 2), 1);
    }

    private static void plantLeavesTheRest() {
        Subakhall x = Check.oneField(60);
        Hills.dry(x, 4);
        x.day(50, 0, 0);
        x.puddle(0);
        x.ducks(0, true);
        int water = x.ofField(0, 1);
        Check.helpAndPlant(x, 0, 1);
        check.due("8: WATER stays", x.ofField(0, 1), water);
        check.due("8: NITROGEN stays", x.ofField(0, 9), 20);
        check.due("8: COINS stay", x.ofOwner(0, 0), 20);
        Subakhall pests = Hills.ripeWith(99);
        pests.harvest(0, false);
        pests.puddle(0);
        check.due("7: PUDDLED, PESTS stay", pests.ofField(0, 8), 99);
        if (pests.many(4) == 1) {
            Hills.rain(pests, 0);
        }
        int ahead = pests.ofField(0, 8);
        Check.helpAndPlant(pests, 0, 0);
        check.due("8: planted, PESTS stay", pests.ofField(0, 8), ahead);
        check.due("8: there are some", ahead > 0, true);
        Subakhall cracked = Hills.puddled(1, 0);
        while (cracked.ofField(0, 2) < 2) {
            cracked.day(0, 0, 0);
        }
        check.due("2: a PUDDLED one cracks, too", cracked.ofField(0, 4), 1);
        Check.helpAndPlant(cracked, 0, 0);
        check.due("8: planted, CRACKS stay", cracked.ofField(0, 2), 2);
        check.due("8: planted, days DRY stay", cracked.ofField(0, 3), 6);
        Hills.dry(cracked, 3);
        check.due("2: the next CRACK on the ninth DRY DAY", cracked.ofField(0, 2), 3);
    }

    private static void help() {
        Subakhall x = Hills.of(2, 60, 0, 1, 1);
        check.due("9: of another SOCIETY", x.help(0, 2), 1);
        check.due("9: the helper's ACCOUNT", x.ofOwner(0, 1), 1);
        check.due("9: the FIELD's, 1 less", x.ofOwner(2, 1), -1);
        check.due("9: nobody else's", x.ofOwner(1, 1), 0);
        check.due("9: on the own: \"HELP alone\"", x.help(1, 1), 1);
        check.due("9: the own ACCOUNT stays", x.ofOwner(1, 1), 0);
        Subakhall most = Hills.of(1, 60, 0, 0);
        for (int i = 1; i <= 500; i++) {
            check.due("9: HELP has no limit", most.help(0, 1), i);
        }
        check.due("9: nor has an ACCOUNT", most.ofOwner(0, 1) - most.ofOwner(1, 1), 1000);
    }

    private static void yieldByStage() {
        for (int stage = 0; stage <= 5; stage++) {
            Subakhall x = Hills.inStage(stage);
            // Five days to be RIPE take 4 NITROGEN: 40 times 66, divided by 100.
            check.due("3: \"of others 0\": " + stage, x.ofField(0, 10), stage == 5 ? 26 : 0);
        }
        Subakhall x = Check.ripe();
        x.harvest(0, false);
        check.due("3: FALLOW behind a HARVEST", x.ofField(0, 10), 0);
    }

    /** RIPE, of KIND 2, after a first DAY that deep and six more; 6 NITROGEN are taken. */
    private static Subakhall ripeOfKind2(int... depths) {
        Subakhall x = Check.planted(2);
        x.ducks(0, true);
        for (int depth : depths) {
            Check.dayTo(x, depth, 40);
        }
        check.due("3: RIPE", x.ofField(0, 4), 5);
        return x;
    }

    private static void yieldIsRoundedDownTwice() {
        Subakhall full = ripeOfKind2(20, 20, 20, 20, 20, 20, 20);
        check.due("3: 80, times 64 of 100 is 51.2", full.ofField(0, 10), 51);
        Subakhall x = ripeOfKind2(21, 20, 20, 20, 20, 20, 20);
        check.due("3: VIGOUR", x.ofField(0, 7), 98);
        // 78.4 is 78, and 49.92 is 49; not rounded between it would be 50.17.
        check.due("3: 80 times 98 of 100, then times 64 of 100", x.ofField(0, 10), 49);
        Subakhall one = Check.planted(1);
        one.ducks(0, true);
        int[] depths = {1, 20, 20, 20, 20};
        for (int depth : depths) {
            if (depth == 1) {
                while (one.ofField(0, 1) > 4) {
                    one.day(0, 0, 0);
                }
            }
            Check.dayTo(one, depth, 40);
        }
        check.due("3: RIPE", one.ofField(0, 4), 5);
        check.due("3: VIGOUR", one.ofField(0, 7), 97);
        int nitrogen = one.ofField(0, 9);
        check.due("3: 60 times 97 of 100 is 58", one.ofField(0, 10), 58 * (50 + nitrogen) / 100);
    }

    private static void yieldOfNothing() {
        Subakhall x = Check.planted(0);
        x.ducks(0, true);
        Hills.dry(x, 45);
        while (x.ofField(0, 4) != 5) {
            x.day(0, 40, 0);
        }
        check.due("3: VIGOUR of 0", x.ofField(0, 7), 0);
        check.due("3: NITROGEN of 0", x.ofField(0, 9), 0);
        check.due("3: the YIELD of VIGOUR 0", x.ofField(0, 10), 0);
        check.due("12: a CUT of nothing", x.cut(0), 0);
        check.due("11: a HARVEST of nothing", x.harvest(0, false), 0);
        check.due("11: no CHEST", x.ofSociety(0, 2), 0);
        check.due("11: no RICE", x.ofOwner(0, 2), 0);
        check.due("11: it is FALLOW", x.ofField(0, 4), 0);
        check.due("11: its straw is ploughed in", x.ofField(0, 9), 10);
        check.badState("15: nothing to sell", x, () -> x.sell(0, 1));
    }

    /** NITROGEN of 50 by HARVESTS of KIND 0, each of which takes 3 and brings 10. */
    private static Subakhall rich() {
        Subakhall x = Hills.growing(0, 1);
        while (x.ofField(0, 9) < 50) {
            if (x.ofField(0, 4) == 0) {
                x.puddle(0);
                if (x.many(4) == 1) {
                    Hills.rain(x, 0);
                }
                Check.helpAndPlant(x, 0, 0);
            }
            x.ducks(0, true);
            Hills.ripen(x, 5);
            x.harvest(0, false);
        }
        x.puddle(0);
        if (x.many(4) == 1) {
            Hills.rain(x, 0);
        }
        return x;
    }

    private static void yieldOfMost() {
        Subakhall x = rich();
        check.due("1: NITROGEN of 50", x.ofField(0, 9), 50);
        Check.helpAndPlant(x, 0, 2);
        Hills.rain(x, 40, 40, 40, 40, 40, 40, 40);
        check.due("3: 80, times 94 of 100", x.ofField(0, 10), 75);
        int luck = (7 * x.many(2)) % 21;
        check.due("12: the CUT", x.cut(0), 75 * (90 + luck) / 100);
        check.due("22: at most, below 120", x.thought(0, true) < 120, true);
        check.due("11: a tenth of 75 and the rest", x.harvest(0, false), 75);
        check.due("11: 44 and 10 NITROGEN are 50", x.ofField(0, 9), 50);
    }

    /** RIPE, of KIND 0, without NITROGEN, and with a VIGOUR that is 100 less 3s and 2s. */
    private static Subakhall poor(int threes, int twos) {
        Subakhall x = Check.planted(0);
        x.ducks(0, true);
        Hills.dry(x, 5);
        for (int i = 0; i < threes; i++) {
            Check.dayTo(x, 1, 0);
        }
        for (int i = 0; i < twos; i++) {
            Check.dayTo(x, 21, 0);
        }
        while (x.ofField(0, 1) > 15) {
            x.day(0, 0, 0);
        }
        while (x.ofField(0, 9) > 0) {
            Check.dayTo(x, 15, 0);
        }
        while (x.ofField(0, 4) != 5) {
            Check.dayTo(x, 15, 40);
        }
        check.due("3: VIGOUR", x.ofField(0, 7), 100 - 3 * threes - 2 * twos);
        return x;
    }

    private static void tenth() {
        boolean[] seen = new boolean[21];
        for (int threes = 0; threes <= 32; threes++) {
            for (int twos = 0; twos <= 1; twos++) {
                Subakhall x = poor(threes, twos);
                int vigour = x.ofField(0, 7);
                int due = 40 * vigour / 100 * 50 / 100;
                check.due("3: the YIELD by VIGOUR " + vigour, x.ofField(0, 10), due);
                check.due("11: the HARVEST", x.harvest(0, false), due);
                check.due("11: \"a tenth of the YIELD\" of " + due, x.ofSociety(0, 2),
                        due < 10 ? 0 : due < 20 ? 1 : 2);
                check.due("11: \"the rest is RICE\"", x.ofOwner(0, 2), due - x.ofSociety(0, 2));
                seen[due] = true;
            }
        }
        check.due("11: YIELDS of 9, 10 and 11 were there", seen[9] && seen[10] && seen[11], true);
    }

    private static void harvestByStage() {
        for (int stage = 0; stage <= 4; stage++) {
            Subakhall x = Hills.inStage(stage);
            check.badState("11: \"if it is not RIPE\": " + stage, x, () -> x.harvest(0, true));
            check.badState("11: nor ploughed in: " + stage, x, () -> x.harvest(0, false));
            check.due("11: the STAGE stays", x.ofField(0, 4), stage);
            check.due("11: nothing was YIELDED", x.many(10), 0);
        }
        Subakhall x = Hills.inStage(5);
        check.due("11: RIPE", x.harvest(0, true), 26);
        check.badState("11: once alone", x, () -> x.harvest(0, true));
        check.due("11: YIELDED once", x.many(10), 26);
    }

    private static void harvestLeavesTheRest() {
        Subakhall x = Hills.inStage(5);
        Hills.dry(x, 12);
        check.due("11: CRACKS and DRY ahead", x.ofField(0, 2) > 0 && x.ofField(0, 3) > 0, true);
        int cracks = x.ofField(0, 2);
        int dry = x.ofField(0, 3);
        x.harvest(0, true);
        check.due("11: CRACKS stay", x.ofField(0, 2), cracks);
        check.due("11: days DRY stay", x.ofField(0, 3), dry);
        check.due("11: COINS of the OWNER stay", x.ofOwner(0, 0), 20);
        check.due("11: the GATE stays", x.ofField(0, 13), 1);
        x.sell(0, 1);
        check.due("15: sold, CRACKS and days DRY stay", x.ofField(0, 2) * 100 + x.ofField(0, 3), cracks * 100 + dry);
        Subakhall ducks = Hills.ripeWith(99);
        ducks.ducks(0, true);
        ducks.harvest(0, false);
        Hills.rain(ducks, 0);
        check.due("11: its DUCKS stay: half of 99 less 4", ducks.ofField(0, 8), 45);
    }

    private static void straw() {
        int[][] cases = {{0, 0}, {1, 0}, {2, 1}, {3, 1}, {99, 49}};
        for (int[] c : cases) {
            Subakhall burnt = Hills.ripeWith(c[0]);
            int nitrogen = burnt.ofField(0, 9);
            burnt.harvest(0, true);
            check.due("11: \"half of its PESTS are left\" of " + c[0], burnt.ofField(0, 8), c[1]);
            check.due("11: burnt, NITROGEN stays", burnt.ofField(0, 9), nitrogen);
            Subakhall ploughed = Hills.ripeWith(c[0]);
            ploughed.harvest(0, false);
            check.due("11: ploughed in, PESTS stay", ploughed.ofField(0, 8), c[0]);
            check.due("11: \"10 NITROGEN more\"", ploughed.ofField(0, 9), nitrogen + 10);
        }
        for (int less = 0; less <= 3; less++) {
            // From 50: 8 to 12 days on the stalk leave 42 to 38, and 10 more are 50, or less.
            Subakhall x = rich();
            Check.helpAndPlant(x, 0, 0);
            x.ducks(0, true);
            for (int i = 0; i < 6 + less; i++) {
                Hills.rain(x, 0);
            }
            Hills.ripen(x, 5);
            int ahead = 50 - 6 - less - 3;
            check.due("11: NITROGEN ahead", x.ofField(0, 9), ahead);
            x.harvest(0, false);
            check.due("11: \"50 at most\" of " + ahead, x.ofField(0, 9), ahead >= 40 ? 50 : ahead + 10);
        }
    }

    private static void severalHarvests() {
        Subakhall x = Hills.of(2, Hills.BUND, 0, 0, 1);
        x.day(0, 0, 30);
        for (int f = 0; f < 3; f++) {
            x.puddle(f);
            Check.helpAndPlant(x, f, 0);
        }
        Hills.ripen(x, 5);
        // Each: 40 times 67, divided by 100.
        x.harvest(0, false);
        x.harvest(1, false);
        check.due("3: \"what was YIELDED\" of two FIELDS", x.ofSociety(0, 5), 52);
        check.due("11: the CHEST of two tenths", x.ofSociety(0, 2), 4);
        check.due("3: the other SOCIETY's CROP", x.ofSociety(1, 5), 0);
        x.harvest(2, false);
        check.due("3: its own", x.ofSociety(1, 5), 26);
        check.due("23: all that was YIELDED", x.many(10), 78);
        check.due("23: all CHESTS", x.many(7), 6);
        x.vote(0);
        check.due("3: \"since its last VOTE\": anew", x.ofSociety(0, 5), 0);
        check.due("3: the other did not VOTE", x.ofSociety(1, 5), 26);
        x.puddle(0);
        Check.helpAndPlant(x, 0, 0);
        Hills.ripen(x, 5);
        // 27 NITROGEN ahead, of which 3 are taken.
        check.due("11: the second of the same FIELD", x.harvest(0, true), 29);
        check.due("3: CROP since the VOTE", x.ofSociety(0, 5), 29);
        check.due("11: RICE of both", x.ofOwner(0, 2), 24 + 27);
        check.due("11: the CHEST goes on", x.ofSociety(0, 2), 6);
        check.due("23: all that was ever YIELDED", x.many(10), 107);
    }

    private static void cutByStage() {
        for (int stage = 0; stage <= 4; stage++) {
            Subakhall x = Hills.inStage(stage);
            check.badState("12: \"if it is not RIPE\": " + stage, x, () -> x.cut(0));
            check.due("12: no CUT is counted", x.many(9), 0);
        }
        Subakhall x = Hills.inStage(5);
        Hills.dry(x, 12);
        int cracks = x.ofField(0, 2);
        int dry = x.ofField(0, 3);
        check.due("12: CRACKS and DRY ahead", cracks > 0 && dry > 0, true);
        x.cut(0);
        check.due("12: CUT, CRACKS and days DRY stay", x.ofField(0, 2) * 100 + x.ofField(0, 3), cracks * 100 + dry);
        x.harvest(0, true);
        check.badState("12: behind the HARVEST", x, () -> x.cut(0));
        check.due("12: one CUT alone", x.many(9), 1);
    }

    private static void cutsModulo21() {
        Subakhall x = Check.ripe();
        check.due("12: the DAY", x.many(2), 5);
        // 35 modulo 21 is 14; then 5 more each time, from 21 on anew.
        int[] lucks = {14, 19, 3, 8, 13, 18, 2, 7, 12, 17, 1, 6, 11, 16, 0, 5, 10, 15, 20, 4, 9, 14, 19};
        for (int i = 0; i < lucks.length; i++) {
            check.due("23: CUTS ever", x.many(9), i);
            check.due("12: the CUT " + i, x.cut(0), 26 * (90 + lucks[i]) / 100);
            check.due("22: the YIELD is no less", x.thought(0, false) <= 26, true);
            check.due("22: the YIELD is no more", x.thought(0, true) >= 26, true);
        }
        check.due("12: the YIELD stays", x.ofField(0, 10), 26);
        check.due("22: by the CUT of 110 of 100", x.thought(0, false), 26);
        check.due("22: by the CUT of 90 of 100", x.thought(0, true), 26);
    }

    private static void cutsOfAllFields() {
        Subakhall x = Hills.growing(0, 12);
        Hills.ripen(x, 5);
        check.due("12: the DAY", x.many(2), 5);
        int cuts = 0;
        for (int f = 11; f >= 0; f -= 1) {
            int luck = (35 + 13 * f + 5 * cuts) % 21;
            check.due("12: \"13 times its number\": " + f, x.cut(f), 26 * (90 + luck) / 100);
            cuts++;
        }
        check.due("23: \"CUTS ever\"", x.many(9), 12);
        x.harvest(3, true);
        Hills.rain(x, 0);
        int luck = (7 * 6 + 13 * 11 + 5 * 12) % 21;
        check.due("12: \"7 times the DAY\"", x.cut(11), 26 * (90 + luck) / 100);
    }

    private static void cutOfZero() {
        Subakhall x = Check.planted(0);
        x.ducks(0, true);
        Hills.dry(x, 45);
        while (x.ofField(0, 4) != 5) {
            x.day(0, 40, 0);
        }
        check.due("12: a CUT of nothing", x.cut(0), 0);
        check.due("22: \"at least 100 times c, divided by 110\"", x.thought(0, false), 0);
        check.due("22: \"at most 100 times (c and 1) less 1, divided by 90\"", x.thought(0, true), 1);
    }

    private static void thoughtIsRounded() {
        for (int wait = 0; wait < 21; wait++) {
            Subakhall x = ripeOfKind2(20, 20, 20, 20, 20, 20, 20);
            Hills.dry(x, wait);
            int luck = 7 * x.many(2) % 21;
            int told = x.cut(0);
            check.due("12: the CUT of 51", told, 51 * (90 + luck) / 100);
            int least = 0;
            while (110 * least < 100 * told) {
                least++;
            }
            int most = 120;
            while (90 * most > 100 * (told + 1) - 1) {
                most--;
            }
            check.due("22: rounded up", x.thought(0, false), least);
            check.due("22: rounded down", x.thought(0, true), most);
        }
        Subakhall x = Check.ripe();
        for (int i = 0; i < 8; i++) {
            x.cut(0);
        }
        // By these it was told 23 to 28.
        check.due("22: 2800 of 110, rounded up", x.thought(0, false), 26);
        check.due("22: 2399 of 90, rounded down", x.thought(0, true), 26);
        Subakhall even = Check.planted(2);
        even.ducks(0, true);
        Check.dayTo(even, 20, 0);
        Check.dayTo(even, 20, 0);
        for (int i = 0; i < 7; i++) {
            Check.dayTo(even, 20, 40);
        }
        Hills.dry(even, 2);
        check.due("12: 49 times 90 of 100", even.cut(0), 44);
        check.due("22: 4400 of 110 is even", even.thought(0, false), 40);
        check.due("22: \"less 1\": 4499 of 90", even.thought(0, true), 49);
    }

    private static void thoughtByAllCuts() {
        Subakhall x = Check.ripe();
        check.due("22: \"without one 0 to 120\"", x.thought(0, false), 0);
        check.due("22: \"without one 0 to 120\"", x.thought(0, true), 120);
        check.due("12: 104 of 100", x.cut(0), 27);
        check.due("22: one CUT", x.thought(0, false) * 1000 + x.thought(0, true), 25031);
        check.due("12: 109 of 100", x.cut(0), 28);
        check.due("22: the greater least and the smaller most", x.thought(0, false) * 1000 + x.thought(0, true), 26031);
        check.due("12: 93 of 100", x.cut(0), 24);
        check.due("22: 2499 of 90", x.thought(0, false) * 1000 + x.thought(0, true), 26027);
        check.due("12: 98 of 100", x.cut(0), 25);
        check.due("22: \"what is so by all CUTS\"", x.thought(0, false) * 1000 + x.thought(0, true), 26027);
    }

    private static void thoughtSincePlanted() {
        Subakhall x = Check.ripe();
        x.cut(0);
        x.day(0, 0, 0);
        check.due("22: behind a DAY", x.thought(0, false) * 1000 + x.thought(0, true), 25031);
        x.harvest(0, false);
        check.due("22: \"behind its HARVEST, too\"", x.thought(0, false) * 1000 + x.thought(0, true), 25031);
        x.puddle(0);
        check.due("22: PUDDLED", x.thought(0, false) * 1000 + x.thought(0, true), 25031);
        x.plan(0, 30);
        check.due("22: a plan plants nothing", x.thought(0, false) * 1000 + x.thought(0, true), 25031);
        Check.helpAndPlant(x, 0, 0);
        check.due("22: \"since it was planted last\": anew", x.thought(0, false) * 1000 + x.thought(0, true), 120);
        check.due("23: CUTS go on", x.many(9), 1);
    }

    private static void thoughtOfEachField() {
        Subakhall x = Hills.growing(0, 3);
        Hills.ripen(x, 5);
        x.cut(1);
        check.due("22: the one ahead", x.thought(0, false) * 1000 + x.thought(0, true), 120);
        check.due("22: its own", x.thought(1, true) < 120 && x.thought(1, false) > 0, true);
        check.due("22: the one behind", x.thought(2, false) * 1000 + x.thought(2, true), 120);
    }
}
