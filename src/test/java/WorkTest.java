/** Promises 7 to 12. */
public final class WorkTest {
    private static final Check check = new Check("WorkTest");

    public static void main(String[] args) {
        puddle();
        puddleMendsCracks();
        plant();
        plantRefuses();
        help();
        ducks();
        harvestBurnt();
        harvestPloughed();
        harvestOfKinds();
        cut();
        check.end();
    }

    private static void puddle() {
        Subakhall x = Check.oneField(60);
        check.badState("7: without WATER", x, () -> x.puddle(0));
        x.day(11, 0, 0);
        check.due("7: WATER of 9", x.ofField(0, 1), 9);
        check.badState("7: with 9", x, () -> x.puddle(0));
        x.day(3, 0, 0);
        check.due("7: puddle(0) with 10", x.puddle(0), 10);
        check.due("7: PUDDLED", x.ofField(0, 4), 1);
        check.due("7: no KIND", x.ofField(0, 5), -1);
        check.due("7: its WATER stays", x.ofField(0, 1), 10);
        check.badState("7: twice", x, () -> x.puddle(0));
        check.noSuch("7: puddle(1)", x, () -> x.puddle(1));
        check.noSuch("7: puddle(-1)", x, () -> x.puddle(-1));
    }

    private static void puddleMendsCracks() {
        Subakhall x = Check.oneField(60);
        for (int i = 0; i < 6; i++) {
            x.day(0, 0, 0);
        }
        check.due("7: CRACKS ahead", x.ofField(0, 2), 2);
        x.day(30, 0, 0);
        x.puddle(0);
        check.due("7: no CRACKS then", x.ofField(0, 2), 0);
    }

    private static void plant() {
        Subakhall x = Check.planted(2);
        check.due("8: GROWING", x.ofField(0, 4), 2);
        check.due("8: its KIND", x.ofField(0, 5), 2);
        check.due("8: SUM", x.ofField(0, 6), 0);
        check.due("8: VIGOUR", x.ofField(0, 7), 100);
        check.due("8: HELP is used", x.ofField(0, 11), 0);
        Subakhall y = Check.oneField(60);
        y.day(20, 0, 0);
        y.day(20, 0, 0);
        y.puddle(0);
        y.help(0, 0);
        y.help(0, 0);
        y.help(0, 0);
        check.due("8: plant answers the DAY", y.plant(0, 1), 2);
    }

    private static void plantRefuses() {
        Subakhall x = Check.oneField(60);
        for (int day = 1; day <= 29; day++) {
            x.day(20, 0, 0);
        }
        check.badState("8: FALLOW", x, () -> x.plant(0, 0));
        x.puddle(0);
        x.help(0, 0);
        x.help(0, 0);
        check.badState("8: HELP of 2", x, () -> x.plant(0, 0));
        x.help(0, 0);
        x.day(20, 0, 0);
        check.due("8: a DARK DAY", x.many(4), 1);
        check.badState("8: on a DARK DAY", x, () -> x.plant(0, 0));
        check.badArgument("8: plant(0, 3)", x, () -> x.plant(0, 3));
        check.badArgument("8: plant(0, -1)", x, () -> x.plant(0, -1));
        check.noSuch("8: plant(1, 3)", x, () -> x.plant(1, 3));
        check.noSuch("8: plant(-1, 0)", x, () -> x.plant(-1, 0));
        x.day(20, 0, 0);
        check.due("8: the DAY behind", x.plant(0, 0), 31);
        check.badState("8: twice", x, () -> x.plant(0, 0));
    }

    private static void help() {
        Subakhall x = Check.oneField(60);
        x.field(0, 1, 60);
        check.due("9: help(0, 1)", x.help(0, 1), 1);
        check.due("9: help(0, 1) again", x.help(0, 1), 2);
        check.due("9: ACCOUNT of who helps", x.ofOwner(0, 1), 2);
        check.due("9: ACCOUNT of the other", x.ofOwner(1, 1), -2);
        check.due("9: HELP of the other", x.ofField(1, 11), 2);
        check.due("9: HELP of the own", x.ofField(0, 11), 0);
        check.due("9: help(0, 0)", x.help(0, 0), 1);
        check.due("9: on the own FIELD the ACCOUNT stays", x.ofOwner(0, 1), 2);
        check.noSuch("9: help(2, 0)", x, () -> x.help(2, 0));
        check.noSuch("9: help(0, 2)", x, () -> x.help(0, 2));
        check.noSuch("9: help(-1, 0)", x, () -> x.help(-1, 0));
        check.noSuch("9: help(0, -1)", x, () -> x.help(0, -1));
    }

    private static void ducks() {
        Subakhall x = Check.planted(2);
        for (int i = 0; i < 8; i++) {
            Check.dayTo(x, 20, 0);
        }
        check.due("10: ducks(0, true)", x.ducks(0, true), 14);
        Check.dayTo(x, 20, 0);
        check.due("10: 14 and 4 less 4", x.ofField(0, 8), 14);
        check.due("10: ducks(0, false)", x.ducks(0, false), 14);
        Check.dayTo(x, 20, 0);
        check.due("10: 14 and 4", x.ofField(0, 8), 18);
        Subakhall y = Check.oneField(60);
        y.ducks(0, true);
        y.day(0, 0, 0);
        check.due("10: not below 0", y.ofField(0, 8), 0);
        check.noSuch("10: ducks(1, true)", x, () -> x.ducks(1, true));
        check.noSuch("10: ducks(-1, true)", x, () -> x.ducks(-1, true));
    }

    private static void harvestBurnt() {
        Subakhall x = Check.ripe();
        x.help(0, 0);
        check.due("11: the YIELD", x.ofField(0, 10), 26);
        check.due("11: harvest(0, true)", x.harvest(0, true), 26);
        check.due("11: a tenth for the CHEST", x.ofSociety(0, 2), 2);
        check.due("11: RICE", x.ofOwner(0, 2), 24);
        check.due("11: COINS stay", x.ofOwner(0, 0), 20);
        check.due("11: CROP", x.ofSociety(0, 5), 26);
        check.due("11: all that was YIELDED", x.many(10), 26);
        int[] want = {0, 20, 0, 0, 0, -1, 0, 0, 1, 17, 0, 1};
        for (int what = 0; what < want.length; what++) {
            check.due("11: ofField(0, " + what + ")", x.ofField(0, what), want[what]);
        }
        check.badState("11: twice", x, () -> x.harvest(0, true));
        check.noSuch("11: harvest(1, true)", x, () -> x.harvest(1, true));
        check.noSuch("11: harvest(-1, true)", x, () -> x.harvest(-1, true));
    }

    private static void harvestPloughed() {
        Subakhall x = Check.ripe();
        check.due("11: harvest(0, false)", x.harvest(0, false), 26);
        check.due("11: PESTS stay", x.ofField(0, 8), 3);
        check.due("11: NITROGEN", x.ofField(0, 9), 27);
        for (int crop = 0; crop < 6; crop++) {
            x.puddle(0);
            if (x.many(4) == 1) {
                x.day(2, 0, 0);
            }
            Check.helpAndPlant(x, 0, 0);
            for (int i = 0; i < 4; i++) {
                Check.dayTo(x, 20, 40);
            }
            x.harvest(0, false);
        }
        check.due("11: NITROGEN is 50 at most", x.ofField(0, 9), 50);
        Subakhall y = Check.planted(0);
        check.badState("11: GROWING", y, () -> y.harvest(0, false));
    }

    private static void harvestOfKinds() {
        Subakhall x = Check.planted(1);
        while (x.ofField(0, 4) != 5) {
            Check.dayTo(x, 20, 40);
        }
        // Five days take 4 NITROGEN: 60 times 66, divided by 100.
        check.due("11: KIND 1", x.harvest(0, false), 39);
        check.due("11: a tenth of 39", x.ofSociety(0, 2), 3);
        Subakhall y = Check.planted(2);
        Check.dayTo(y, 20, 0);
        Check.dayTo(y, 20, 0);
        while (y.ofField(0, 4) != 5) {
            Check.dayTo(y, 20, 40);
        }
        // Nine days take 8 NITROGEN: 80 times 62, divided by 100.
        check.due("11: PESTS ahead", y.ofField(0, 8), 14);
        check.due("11: KIND 2", y.harvest(0, true), 49);
        check.due("11: a tenth of 49", y.ofSociety(0, 2), 4);
        check.due("11: RICE of 49", y.ofOwner(0, 2), 45);
        check.due("11: half of the PESTS", y.ofField(0, 8), 7);
        y.day(0, 0, 0);
        check.due("11: half of these", y.ofField(0, 8), 3);
        Subakhall z = Check.planted(2);
        while (z.ofField(0, 4) != 5) {
            Check.dayTo(z, 20, 40);
        }
        // Seven days take 6 NITROGEN: 80 times 64, divided by 100.
        check.due("11: KIND 2, sooner", z.harvest(0, true), 51);
        check.due("11: a tenth of 51", z.ofSociety(0, 2), 5);
    }

    private static void cut() {
        Subakhall x = Check.oneField(60);
        x.field(0, 1, 60);
        x.day(20, 0, 0);
        x.day(0, 0, 18);
        x.puddle(1);
        check.badState("12: FALLOW", x, () -> x.cut(0));
        check.badState("12: PUDDLED", x, () -> x.cut(1));
        Check.helpAndPlant(x, 1, 0);
        for (int i = 0; i < 4; i++) {
            check.badState("12: not RIPE", x, () -> x.cut(1));
            x.day(0, 40, 3);
        }
        check.due("12: the YIELD", x.ofField(1, 10), 26);
        // 7 * 6 + 13 * 1 + 5 * cuts: 55, 60, 65; modulo 21: 13, 18, 2.
        check.due("12: cut(1)", x.cut(1), 26 * 103 / 100);
        check.due("12: cut(1), the second", x.cut(1), 26 * 108 / 100);
        check.due("12: cut(1), the third", x.cut(1), 26 * 92 / 100);
        check.due("12: CUTS ever", x.many(9), 3);
        check.due("12: it stays RIPE", x.ofField(1, 4), 5);
        check.noSuch("12: cut(2)", x, () -> x.cut(2));
        check.noSuch("12: cut(-1)", x, () -> x.cut(-1));
    }
}
