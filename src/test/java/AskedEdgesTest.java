/** Promises 17 to 25: what is answered of nothing, of one, of as many as there may be, and of the last DAY. */
public final class AskedEdgesTest {
    private static final Check check = new Check("AskedEdgesTest");

    public static void main(String[] args) {
        gotOnTheLastDay();
        gotAtTheWeirOnTheLastDay();
        nextTurnOfNobody();
        nextTurnOfWhoCouldGet();
        manyOfAll();
        waterOfAll();
        meanDepth();
        suspectNone();
        suspectByOne();
        suspectOfThoseThatGot();
        suspectOfSeveral();
        suspectOfItsOwn();
        suspectOfTheLastDay();
        suspectRoundedDown();
        check.end();
    }

    private static void gotOnTheLastDay() {
        Subakhall x = Hills.of(1, 60, 0);
        x.gate(0, true);
        check.due("17: ahead of the first DAY", x.ofField(0, 12), 0);
        x.day(7, 0, 9);
        check.due("17: through its GATE alone", x.ofField(0, 12), 7);
        check.badArgument("13: a refused DAY", x, () -> x.day(201, 0, 0));
        check.due("17: the last DAY is the last one that passed", x.ofField(0, 12), 7);
        x.puddle(0);
        check.due("17: whatever is worked", x.ofField(0, 12), 7);
        x.day(0, 0, 0);
        check.due("17: anew each DAY", x.ofField(0, 12), 0);
        x.day(5, 0, 0);
        x.gate(0, false);
        x.day(5, 0, 0);
        check.due("17: behind a shut GATE", x.ofField(0, 12), 0);
    }

    private static void gotAtTheWeirOnTheLastDay() {
        Subakhall x = new Subakhall();
        x.society(1, 50, 9, 1);
        check.due("19: ahead of the first DAY", x.ofSociety(0, 7), 0);
        x.day(60, 0, 0);
        check.due("19: whatever sinks, and with a shut WINDOW", x.ofSociety(0, 7), 60);
        x.society(2, 0, 0, 210);
        check.due("19: one that is told later", x.ofSociety(1, 7), 0);
        check.due("19: the one ahead of it", x.ofSociety(0, 7), 60);
        x.day(60, 0, 0);
        check.due("19: of two", x.ofSociety(0, 7) * 100 + x.ofSociety(1, 7), 2040);
        x.day(0, 0, 0);
        check.due("19: anew each DAY", x.ofSociety(0, 7) + x.ofSociety(1, 7), 0);
    }

    private static void nextTurnOfNobody() {
        Subakhall x = Hills.of(2, 60, 1, 1);
        x.gate(0, true);
        check.due("19: NONE without FIELDS", x.ofSociety(0, 8), -1);
        check.due("19: one of another SOCIETY", x.ofSociety(1, 8), 0);
        x.gate(0, false);
        check.due("19: NONE with shut GATES", x.ofSociety(1, 8), -1);
        Hills.open(x, 0, 1);
        x.stones(0, 5);
        x.inspect(1);
        check.due("19: not one who is EXCLUDED", x.ofSociety(1, 8), 1);
        x.stones(1, 5);
        x.inspect(1);
        check.due("19: NONE as all are EXCLUDED", x.ofSociety(1, 8), -1);
    }

    private static void nextTurnOfWhoCouldGet() {
        Subakhall x = new Subakhall();
        x.society(1, 0, 1, 1);
        x.field(0, 1, 60);
        x.field(0, 1, 60);
        Hills.open(x, 0, 1);
        check.due("19: with a shut WINDOW", x.ofSociety(0, 8), 0);
        check.due("19: it is shut", x.ofSociety(0, 4), 0);
        x.rotate(0, true);
        x.day(0, 0, 0);
        check.due("19: a turn of nothing is one", x.ofSociety(0, 8), 1);
        x.day(0, 0, 0);
        check.due("19: none is taken behind a shut WINDOW", x.ofSociety(0, 8), 1);
        x.rotate(0, false);
        check.due("19: whether it ROTATES", x.ofSociety(0, 8), 1);
    }

    private static void manyOfAll() {
        Subakhall x = new Subakhall();
        int[] none = {0, 0, 0, 0, 1, 0, 0, 0, 0, 0, 0, 0};
        for (int what = 0; what < none.length; what++) {
            check.due("23: of nothing, many(" + what + ")", x.many(what), none[what]);
        }
        Subakhall y = Hills.of(3, Hills.BUND, 0, 1, 2, 0, 1, 2, 0, 1, 2, 0, 1, 2);
        y.day(0, 0, 30);
        for (int f = 0; f < 12; f++) {
            y.puddle(f);
            Check.helpAndPlant(y, f, 0);
            y.stones(f, 5);
        }
        y.inspect(0);
        Hills.ripen(y, 5);
        for (int f = 0; f < 12; f++) {
            y.cut(f);
            y.harvest(f, false);
        }
        // 12 FIELDS of 3 PESTS and a YIELD of 26; 4 with 5 STONES paid 25 each.
        int[] all = {3, 12, 5, 5, 0, 36, 240 - 100, 24 + 100, 4, 12, 312, 40};
        for (int what = 0; what < all.length; what++) {
            check.due("23: of all, many(" + what + ")", y.many(what), all[what]);
        }
    }

    private static void waterOfAll() {
        Subakhall x = new Subakhall();
        for (int what = 0; what <= 6; what++) {
            check.due("20: of nothing, water(" + what + ")", x.water(what), 0);
        }
        Subakhall y = new Subakhall();
        for (int s = 0; s < 3; s++) {
            y.society(9, 10, 0, 210);
            for (int f = 0; f < 4; f++) {
                y.field(s, 1, 5);
                y.gate(4 * s + f, true);
            }
        }
        y.day(200, 0, 0);
        // 66 each and a REST of 2; 6 of 66 sink, and the 4 FIELDS get 15 each. They spill 10, 20, 30
        // and 40, of which the last runs OUT, sink 1, DRINK 1, and keep 3.
        int[] want = {200, 36, 2, 0, 18 + 12, 12, 120};
        for (int what = 0; what <= 6; what++) {
            check.due("20: of all, water(" + what + ")", y.water(what), want[what]);
        }
        y.day(4, 0, 0);
        // 2 each; none sinks, and 2 are too few for 4.
        check.due("20: LEFT of all", y.water(3), 6);
        check.due("20: REST", y.water(2), 0);
        check.due("21: closed", y.isClosed(), true);
    }

    private static void meanDepth() {
        Subakhall x = Hills.of(2, 60, 1);
        check.due("24: \"0 without any\"", x.meanDepth(0), 0.0);
        check.due("24: one that is dry", x.meanDepth(1), 0.0);
        x.gate(0, true);
        x.day(14, 0, 0);
        check.due("24: of one", x.meanDepth(1), 5.0);
        x.field(1, 1, 60);
        check.due("24: of 5 and 0, \"not cut\"", x.meanDepth(1), 2.5);
        x.field(1, 1, 60);
        check.due("24: of 5, 0 and 0", x.meanDepth(1), 5.0 / 3.0);
        x.field(0, 1, 60);
        check.due("24: another SOCIETY's does not count", x.meanDepth(1), 5.0 / 3.0);
        Subakhall y = Hills.of(1, 60, new int[12]);
        y.day(0, 0, 30);
        check.due("24: of twelve", y.meanDepth(0), 28.0);
        y.gate(0, true);
        y.day(1, 0, 2);
        check.due("24: 29 and 11 times 28", y.meanDepth(0), (29.0 + 11 * 28) / 12.0);
    }

    private static void suspectNone() {
        Subakhall x = Hills.of(1, 60);
        check.due("25: NONE without FIELDS", x.suspect(0), -1);
        x.field(0, 1, 60);
        x.field(0, 1, 60);
        Hills.open(x, 0, 1);
        x.stones(1, 5);
        check.due("25: NONE ahead of the first DAY", x.suspect(0), -1);
        x.day(0, 0, 30);
        check.due("25: NONE as nothing came", x.suspect(0), -1);
        x.stones(1, 0);
        x.day(6, 0, 0);
        check.due("25: NONE as all got what is due", x.suspect(0), -1);
        x.stones(0, 5);
        x.stones(1, 5);
        x.day(6, 0, 0);
        check.due("25: NONE as all have as many STONES", x.suspect(0), -1);
    }

    private static void suspectByOne() {
        // 1 part and 2 parts of 3 came; by the NOTCHES alone 1 and 1 would have, and 1 LEFT.
        Subakhall x = Hills.of(1, 60, 0, 0);
        Hills.open(x, 0, 1);
        x.stones(1, 1);
        x.day(3, 0, 0);
        check.due("17: 1 and 2 of 3", x.ofField(0, 12) * 10 + x.ofField(1, 12), 12);
        check.due("25: 1 above what is due", x.suspect(0), 1);
        Subakhall one = Hills.of(1, 60, 0, 0);
        one.gate(0, true);
        one.stones(0, 5);
        one.day(50, 0, 0);
        check.due("25: who got it alone is due all", one.suspect(0), -1);
        one.rotate(0, true);
        one.gate(1, true);
        one.day(50, 0, 0);
        check.due("25: a turn is no more than due", one.suspect(0), -1);
    }

    private static void suspectOfThoseThatGot() {
        // Of 2, 1 of 7 parts is 0, and 6 of 7 are 1: that one alone got something.
        Subakhall x = Hills.of(1, 60, 0, 0);
        Hills.open(x, 0, 1);
        x.stones(1, 5);
        x.day(2, 0, 0);
        check.due("17: 0 and 1", x.ofField(0, 12) * 10 + x.ofField(1, 12), 1);
        check.due("2: what is LEFT does not count", x.ofSociety(0, 3), 1);
        check.due("25: \"all that got something\", so all is due to it", x.suspect(0), -1);
        x.day(3, 0, 0);
        check.due("17: 0 and 3 of 4", x.ofField(0, 12) * 10 + x.ofField(1, 12), 3);
        check.due("25: still alone", x.suspect(0), -1);
        x.day(6, 0, 0);
        check.due("17: 1 and 6 of 7", x.ofField(0, 12) * 10 + x.ofField(1, 12), 16);
        check.due("25: of two", x.suspect(0), 1);
    }

    private static void suspectOfSeveral() {
        Subakhall x = Hills.of(1, 60, new int[12]);
        for (int f = 0; f < 12; f++) {
            x.gate(f, true);
        }
        x.stones(11, 1);
        x.day(130, 0, 0);
        check.due("25: the last of twelve", x.suspect(0), 11);
        x.stones(5, 1);
        x.stones(7, 1);
        x.day(150, 0, 0);
        check.due("25: \"of several the smallest number\"", x.suspect(0), 5);
        x.stones(7, 2);
        x.day(160, 0, 0);
        check.due("25: who got most above it", x.suspect(0), 7);
        x.stones(0, 2);
        x.day(180, 0, 0);
        check.due("25: the first of all", x.suspect(0), 0);
        // By NOTCHES of 9 and 1 with 5 STONES: 30 and 20 of 50, of which 45 and 5 are due.
        Subakhall y = Hills.of(1, 60);
        y.field(0, 9, 60);
        y.field(0, 1, 60);
        Hills.open(y, 0, 1);
        y.stones(1, 5);
        y.day(45, 0, 0);
        check.due("17: 27 and 18", y.ofField(0, 12) * 100 + y.ofField(1, 12), 2718);
        check.due("25: not who got most", y.suspect(0), 1);
    }

    private static void suspectOfItsOwn() {
        Subakhall x = Hills.of(2, 60, 0, 0, 1, 1);
        Hills.open(x, 0, 1, 2, 3);
        x.stones(3, 5);
        x.day(28, 0, 0);
        check.due("25: of the SOCIETY 0 NONE", x.suspect(0), -1);
        check.due("25: of the SOCIETY 1, by the number of the FIELD", x.suspect(1), 3);
    }

    private static void suspectOfTheLastDay() {
        Subakhall x = Hills.of(1, 60, 0, 0);
        Hills.open(x, 0, 1);
        x.stones(1, 5);
        x.day(14, 0, 0);
        x.stones(1, 0);
        Hills.shut(x, 0, 1);
        check.due("25: as it was on the last DAY", x.suspect(0), 1);
        x.day(14, 0, 0);
        check.due("25: NONE behind shut GATES", x.suspect(0), -1);
        Hills.open(x, 0, 1);
        x.day(14, 0, 0);
        check.due("25: NONE without STONES", x.suspect(0), -1);
        Subakhall shut = new Subakhall();
        shut.society(1, 0, 0, 2);
        shut.field(0, 1, 60);
        shut.field(0, 1, 60);
        Hills.open(shut, 0, 1);
        shut.stones(0, 5);
        shut.day(14, 0, 0);
        check.due("25: with an open WINDOW", shut.suspect(0), 0);
        shut.day(14, 0, 0);
        check.due("25: NONE with a shut one", shut.suspect(0), -1);
    }

    private static void suspectRoundedDown() {
        // NOTCHES of 1 and 2, without STONES: of 5 they get 1 and 3, and of these 4 the second is due 2.
        Subakhall x = Hills.of(1, 60);
        x.field(0, 1, 60);
        x.field(0, 2, 60);
        Hills.open(x, 0, 1);
        x.day(5, 0, 0);
        check.due("17: 1 and 3", x.ofField(0, 12) * 10 + x.ofField(1, 12), 13);
        check.due("25: \"rounded down\"", x.suspect(0), 1);
    }
}
