/** Promises 17 to 25. */
public final class AskedTest {
    private static final Check check = new Check("AskedTest");

    public static void main(String[] args) {
        ofField();
        ofOwner();
        ofSociety();
        water();
        isClosed();
        thought();
        many();
        meanDepth();
        suspect();
        check.end();
    }

    private static void ofField() {
        Subakhall x = Check.planted(1);
        Check.dayTo(x, 20, 40);
        x.help(0, 0);
        int[] want = {0, 20, 0, 0, 2, 1, 40, 100, 1, 19, 0, 1, 5, 1};
        for (int what = 0; what < want.length; what++) {
            check.due("17: ofField(0, " + what + ")", x.ofField(0, what), want[what]);
        }
        Subakhall y = Check.ripe();
        check.due("17: the YIELD", y.ofField(0, 10), 26);
        check.badArgument("17: ofField(0, 14)", x, () -> x.ofField(0, 14));
        check.badArgument("17: ofField(0, -1)", x, () -> x.ofField(0, -1));
        check.noSuch("17: ofField(1, 14)", x, () -> x.ofField(1, 14));
        check.noSuch("17: ofField(-1, 0)", x, () -> x.ofField(-1, 0));
        check.noSuch("17: ofField(MIN, 0)", x, () -> x.ofField(Integer.MIN_VALUE, 0));
        yieldByVigour();
    }

    private static void yieldByVigour() {
        Subakhall x = Check.planted(2);
        x.ducks(0, true);
        // Seven days of 1 deep in the first stage are 21 less; the rest is well.
        for (int i = 0; i < 4; i++) {
            x.day(0, 0, 0);
        }
        check.due("17: 6 deep", x.ofField(0, 1), 6);
        x.day(0, 0, 0);
        for (int i = 0; i < 7; i++) {
            Check.dayTo(x, 1, 0);
        }
        check.due("17: VIGOUR", x.ofField(0, 7), 79);
        while (x.ofField(0, 4) != 5) {
            Check.dayTo(x, 10, 40);
        }
        check.due("17: VIGOUR when RIPE", x.ofField(0, 7), 79);
        check.due("17: NITROGEN when RIPE", x.ofField(0, 9), 2);
        // 80 * 79 / 100 is 63, and 63 * 52 / 100 is 32.
        check.due("17: rounded down twice", x.ofField(0, 10), 32);
    }

    private static void ofOwner() {
        Subakhall x = Check.ripe();
        x.field(0, 1, 60);
        x.help(0, 1);
        x.harvest(0, true);
        x.sell(0, 3);
        int[] want = {23, 1, 21, 0};
        for (int what = 0; what < want.length; what++) {
            check.due("18: ofOwner(0, " + what + ")", x.ofOwner(0, what), want[what]);
        }
        check.badArgument("18: ofOwner(0, 4)", x, () -> x.ofOwner(0, 4));
        check.badArgument("18: ofOwner(0, -1)", x, () -> x.ofOwner(0, -1));
        check.noSuch("18: ofOwner(2, 4)", x, () -> x.ofOwner(2, 4));
        check.noSuch("18: ofOwner(-1, 0)", x, () -> x.ofOwner(-1, 0));
    }

    private static void ofSociety() {
        Subakhall x = new Subakhall();
        x.society(2, 0, 3, 4);
        x.society(1, 0, 0, 210);
        x.field(1, 2, 60);
        x.field(1, 1, 60);
        x.gate(0, true);
        x.gate(1, true);
        x.day(15, 0, 0);
        x.stones(1, 2);
        x.inspect(1);
        int[] first = {3, 4, 0, 0, 0, 0, 0, 10, -1};
        int[] second = {0, 210, 10, 1, 1, 0, 2, 5, 0};
        for (int what = 0; what < first.length; what++) {
            check.due("19: ofSociety(0, " + what + ")", x.ofSociety(0, what), first[what]);
            check.due("19: ofSociety(1, " + what + ")", x.ofSociety(1, what), second[what]);
        }
        x.day(0, 0, 0);
        check.due("19: got nothing at the weir", x.ofSociety(1, 7), 0);
        turnBehindAShutWindow();
        check.badArgument("19: ofSociety(0, 9)", x, () -> x.ofSociety(0, 9));
        check.badArgument("19: ofSociety(0, -1)", x, () -> x.ofSociety(0, -1));
        check.noSuch("19: ofSociety(2, 9)", x, () -> x.ofSociety(2, 9));
        check.noSuch("19: ofSociety(-1, 0)", x, () -> x.ofSociety(-1, 0));
    }

    private static void turnBehindAShutWindow() {
        Subakhall x = new Subakhall();
        x.society(1, 0, 0, 2);
        x.rotate(0, true);
        x.field(0, 1, 60);
        x.field(0, 1, 60);
        check.due("19: no turn with shut GATES", x.ofSociety(0, 8), -1);
        x.gate(0, true);
        x.gate(1, true);
        x.day(5, 0, 0);
        x.day(5, 0, 0);
        check.due("19: the WINDOW is shut", x.ofSociety(0, 4), 0);
        check.due("19: the turn waits", x.ofSociety(0, 8), 1);
        x.stones(1, 5);
        x.inspect(0);
        check.due("19: not of one who is EXCLUDED", x.ofSociety(0, 8), 0);
    }

    private static void water() {
        Subakhall x = new Subakhall();
        x.society(1, 10, 0, 210);
        x.society(2, 0, 0, 210);
        x.field(0, 1, 60);
        x.field(0, 2, 60);
        x.gate(0, true);
        x.gate(1, true);
        x.day(104, 0, 1);
        // 34 and 69, rest 1; 3 sink and 31 are split into 10 and 20, left 1; 69 run out.
        int[] want = {106, 28, 1, 1, 5, 2, 69};
        for (int what = 0; what < want.length; what++) {
            check.due("20: water(" + what + ")", x.water(what), want[what]);
        }
        x.day(0, 0, 0);
        check.due("20: of all days", x.water(0), 106);
        check.due("20: DRUNK of all days", x.water(5), 4);
        check.badArgument("20: water(7)", x, () -> x.water(7));
        check.badArgument("20: water(-1)", x, () -> x.water(-1));
    }

    private static void isClosed() {
        Subakhall x = Check.oneField(5);
        x.field(0, 3, 20);
        x.gate(1, true);
        for (int i = 0; i < 60; i++) {
            x.day(i * 7 % 50, 20, i % 11);
            check.due("21: isClosed()", x.isClosed(), true);
            if (i == 10) {
                x.society(3, 20, 0, 30);
                x.field(1, 1, 10);
                x.gate(2, true);
            }
        }
    }

    private static void thought() {
        Subakhall x = Check.ripe();
        check.due("22: without a CUT", x.thought(0, false), 0);
        check.due("22: without a CUT", x.thought(0, true), 120);
        // Day 5: 35, 40 modulo 21 are 14, 19: 26 * 104 / 100 is 27, 26 * 109 / 100 is 28.
        check.due("22: cut(0)", x.cut(0), 27);
        check.due("22: at least 2700 / 110, rounded up", x.thought(0, false), 25);
        check.due("22: at most 2799 / 90", x.thought(0, true), 31);
        check.due("22: cut(0)", x.cut(0), 28);
        check.due("22: at least 2800 / 110, rounded up", x.thought(0, false), 26);
        check.due("22: at most as ahead", x.thought(0, true), 31);
        x.cut(0);
        x.harvest(0, false);
        check.due("22: behind the HARVEST", x.thought(0, false), 26);
        x.puddle(0);
        check.due("22: PUDDLED", x.thought(0, false), 26);
        Check.helpAndPlant(x, 0, 0);
        check.due("22: planted anew", x.thought(0, false), 0);
        check.due("22: planted anew", x.thought(0, true), 120);
        check.noSuch("22: thought(1, true)", x, () -> x.thought(1, true));
        check.noSuch("22: thought(-1, false)", x, () -> x.thought(-1, false));
        thoughtOfNothing();
        thoughtOfMuch();
    }

    private static void thoughtOfMuch() {
        Subakhall x = Check.planted(2);
        Check.dayTo(x, 20, 0);
        Check.dayTo(x, 20, 0);
        for (int i = 0; i < 7; i++) {
            Check.dayTo(x, 20, 40);
        }
        x.day(0, 0, 0);
        x.day(0, 0, 0);
        check.due("22: the YIELD", x.ofField(0, 10), 49);
        check.due("22: a CUT of 90 of 100", x.cut(0), 44);
        check.due("22: at least 4400 / 110", x.thought(0, false), 40);
        check.due("22: at most 4499 / 90", x.thought(0, true), 49);
        x.cut(0);
        x.cut(0);
        check.due("22: a CUT of 105 of 100", x.cut(0), 51);
        check.due("22: at least 5100 / 110, rounded up", x.thought(0, false), 47);
        check.due("22: at most as ahead", x.thought(0, true), 49);
    }

    private static void thoughtOfNothing() {
        Subakhall x = Check.planted(0);
        for (int i = 0; i < 45; i++) {
            x.day(0, 0, 0);
        }
        check.due("22: VIGOUR of 0", x.ofField(0, 7), 0);
        while (x.ofField(0, 4) != 5) {
            x.day(0, 40, 0);
        }
        check.due("22: a CUT of nothing", x.cut(0), 0);
        check.due("22: at least 0", x.thought(0, false), 0);
        check.due("22: at most 99 / 90", x.thought(0, true), 1);
    }

    private static void many() {
        Subakhall x = Check.ripe();
        x.society(1, 0, 0, 1);
        x.field(1, 1, 60);
        x.cut(0);
        x.harvest(0, false);
        x.stones(0, 1);
        x.stones(1, 5);
        x.inspect(1);
        int[] want = {2, 2, 5, 5, 0, 3, 15, 27, 1, 1, 26, 1};
        for (int what = 0; what < want.length; what++) {
            check.due("23: many(" + what + ")", x.many(what), want[what]);
        }
        for (int day = 6; day <= 240; day++) {
            x.day(0, 0, 0);
            if (day % 30 > 1 && day % 30 < 29) {
                continue;
            }
            check.due("23: the DAY", x.many(2), day);
            check.due("23: the TEMPLE'S DAY", x.many(3), day < 210 ? day : day - 210);
            check.due("23: DARK", x.many(4), day % 30 == 0 ? 1 : 0);
        }
        check.badArgument("23: many(12)", x, () -> x.many(12));
        check.badArgument("23: many(-1)", x, () -> x.many(-1));
    }

    private static void meanDepth() {
        Subakhall x = Check.oneField(60);
        x.society(1, 0, 0, 210);
        x.field(0, 1, 60);
        x.field(0, 1, 60);
        check.due("24: dry", x.meanDepth(0), 0.0);
        check.due("24: without FIELDS", x.meanDepth(1), 0.0);
        x.day(12, 0, 3);
        // 6 of 12 come to field 0: 6 + 3 - 2 is 7, the others stand 1 deep.
        check.due("24: meanDepth(0)", x.meanDepth(0), 3.0);
        x.day(2, 0, 2);
        check.due("24: 8 and 1 and 1, not cut", x.meanDepth(0), 10.0 / 3.0);
        check.noSuch("24: meanDepth(2)", x, () -> x.meanDepth(2));
        check.noSuch("24: meanDepth(-1)", x, () -> x.meanDepth(-1));
    }

    private static void suspect() {
        Subakhall x = new Subakhall();
        x.society(1, 0, 0, 210);
        x.society(1, 0, 0, 210);
        check.due("25: without FIELDS", x.suspect(1), -1);
        for (int i = 0; i < 4; i++) {
            x.field(0, i == 0 ? 2 : 1, 60);
            x.gate(i, i < 3);
        }
        check.due("25: ahead of the first DAY", x.suspect(0), -1);
        x.day(80, 0, 0);
        check.due("25: as the NOTCHES say", x.suspect(0), -1);
        x.stones(1, 3);
        x.stones(2, 3);
        x.day(80, 0, 0);
        // 40 by 2, 4 and 4 of 10: 8, 16, 16; by the notches alone 20, 10, 10.
        check.due("25: of several the smallest number", x.suspect(0), 1);
        x.stones(2, 4);
        x.day(80, 0, 0);
        check.due("25: who got most above", x.suspect(0), 2);
        x.gate(0, false);
        x.stones(1, 0);
        x.stones(2, 0);
        check.due("25: of the last DAY", x.suspect(0), 2);
        x.rotate(0, true);
        x.day(80, 0, 0);
        check.due("25: by a turn none", x.suspect(0), -1);
        suspectOfLittle();
        check.noSuch("25: suspect(2)", x, () -> x.suspect(2));
        check.noSuch("25: suspect(-1)", x, () -> x.suspect(-1));
    }

    private static void suspectOfLittle() {
        Subakhall x = new Subakhall();
        x.society(1, 0, 0, 210);
        x.field(0, 1, 60);
        x.field(0, 1, 60);
        x.gate(0, true);
        x.gate(1, true);
        x.stones(0, 1);
        x.day(3, 0, 0);
        // 2 and 1 of 3, of which each notch is due 1.
        check.due("25: 1 above", x.suspect(0), 0);
        Subakhall y = new Subakhall();
        y.society(1, 0, 0, 210);
        y.field(0, 1, 60);
        y.field(0, 9, 60);
        y.gate(0, true);
        y.gate(1, true);
        y.stones(0, 5);
        y.day(3, 0, 0);
        // 1 and 1, of which a notch of 10 is due 0.
        check.due("25: 1 in all", y.suspect(0), 0);
    }
}
