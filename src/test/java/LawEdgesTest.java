/** Terms, 4: the edges of INSPECTING, selling, and VOTING. */
public final class LawEdgesTest {
    private static final Check check = new Check("LawEdgesTest");

    public static void main(String[] args) {
        inspectNone();
        inspectByStones();
        inspectBelow0();
        inspectItsOwn();
        inspectAll();
        sellLimits();
        sellAll();
        voteAlone();
        voteWithoutFields();
        looksAtNeighbours();
        moreThanTheOwn();
        roundedDown();
        ofTwoAsGreat();
        pestsAbove30();
        moreThanHalf();
        countedOnce();
        cropIs0Then();
        windowFromThenOn();
        excludedVote();
        check.end();
    }

    private static void inspectNone() {
        Subakhall x = Hills.of(2, 60, 1, 1);
        check.due("14: without FIELDS", x.inspect(0), 0);
        check.due("14: without STONES", x.inspect(1), 0);
        check.due("14: COINS stay", x.many(6), 40);
        check.due("14: no CHEST", x.many(7), 0);
    }

    private static void inspectByStones() {
        for (int stones = 0; stones <= 5; stones++) {
            Subakhall x = Hills.of(1, 60, 0);
            x.stones(0, stones);
            check.due("14: \"5 COINS for each STONE\": " + stones, x.inspect(0), 5 * stones);
            check.due("14: COINS", x.ofOwner(0, 0), 20 - 5 * stones);
            check.due("14: the CHEST", x.ofSociety(0, 2), 5 * stones);
            check.due("14: EXCLUDED with less than 0", x.ofOwner(0, 3), stones == 5 ? 1 : 0);
            check.due("14: \"has no STONES any more\"", x.stones(0, 0), 0);
        }
    }

    private static void inspectBelow0() {
        Subakhall x = Hills.of(1, 60, 0);
        for (int i = 1; i <= 4; i++) {
            x.stones(0, 5);
            check.due("14: \"also if less than 0 are left\"", x.inspect(0), 25);
            check.due("14: COINS", x.ofOwner(0, 0), 20 - 25 * i);
            check.due("14: the CHEST", x.ofSociety(0, 2), 25 * i);
            check.due("14: nothing is paid twice", x.inspect(0), 0);
        }
        check.due("23: one is EXCLUDED", x.many(8), 1);
    }

    private static void inspectItsOwn() {
        Subakhall x = Hills.of(3, 60, 0, 1, 0, 2, 1);
        for (int f = 0; f < 5; f++) {
            x.stones(f, 1 + f);
        }
        check.due("14: of the SOCIETY 1", x.inspect(1), 5 * (2 + 5));
        check.due("14: those of others stay", x.many(11), 1 + 3 + 4);
        check.due("14: its CHEST", x.ofSociety(1, 2), 35);
        check.due("14: the CHESTS of others", x.ofSociety(0, 2) + x.ofSociety(2, 2), 0);
        check.due("14: COINS of others", x.ofOwner(0, 0) + x.ofOwner(2, 0) + x.ofOwner(3, 0), 60);
        check.due("14: of the SOCIETY 2", x.inspect(2), 20);
        check.due("23: all CHESTS", x.many(7), 55);
        check.due("23: all COINS", x.many(6), 100 - 55);
    }

    private static void inspectAll() {
        Subakhall x = Hills.of(1, 60, new int[12]);
        for (int f = 0; f < 12; f++) {
            x.stones(f, 5);
        }
        check.due("23: STONES of all FIELDS", x.many(11), 60);
        check.due("14: of 12 FIELDS", x.inspect(0), 300);
        check.due("23: no STONES", x.many(11), 0);
        check.due("23: all are EXCLUDED", x.many(8), 12);
        check.due("23: all COINS", x.many(6), -60);
        check.due("23: all CHESTS", x.many(7), 300);
    }

    private static void sellLimits() {
        Subakhall none = Hills.of(1, 60, 0);
        check.badState("15: without RICE", none, () -> none.sell(0, 1));
        Subakhall x = Check.ripe();
        x.harvest(0, true);
        check.due("15: RICE", x.ofOwner(0, 2), 24);
        for (int wrong : new int[] {0, -1, Integer.MIN_VALUE}) {
            check.badArgument("15: \"if rice is below 1\": " + wrong, x, () -> x.sell(0, wrong));
        }
        for (int wrong : new int[] {25, 26, Integer.MAX_VALUE}) {
            check.badState("15: \"if there is less\": " + wrong, x, () -> x.sell(0, wrong));
        }
        check.due("15: RICE behind refused calls", x.ofOwner(0, 2), 24);
        check.due("15: the least", x.sell(0, 1), 21);
        check.badState("15: 24 are no longer there", x, () -> x.sell(0, 24));
        check.due("15: RICE", x.ofOwner(0, 2), 23);
    }

    private static void sellAll() {
        Subakhall x = Check.ripe();
        x.harvest(0, true);
        check.due("15: all that there is", x.sell(0, 24), 44);
        check.due("15: no RICE", x.ofOwner(0, 2), 0);
        check.badState("15: not one more", x, () -> x.sell(0, 1));
        check.badArgument("15: nor none", x, () -> x.sell(0, 0));
        check.due("15: COINS", x.ofOwner(0, 0), 44);
        check.due("15: not for the CHEST", x.ofSociety(0, 2), 2);
    }

    /**
     * SOCIETIES with as many FIELDS as told. Their WINDOWS are always open, and tell them apart by
     * FROM: 0, 70, 140. Where it is told, the first FIELD has YIELDED 26.
     */
    private static Subakhall cropped(int[] fields, boolean... yielded) {
        Subakhall x = new Subakhall();
        int[] first = new int[fields.length];
        for (int s = 0; s < fields.length; s++) {
            x.society(1, 0, 70 * s, 210);
            first[s] = x.many(1);
            for (int i = 0; i < fields[s]; i++) {
                x.field(s, 1, Hills.BUND);
            }
        }
        x.day(0, 0, 30);
        for (int s = 0; s < fields.length; s++) {
            if (yielded[s]) {
                x.puddle(first[s]);
                Check.helpAndPlant(x, first[s], 0);
            }
        }
        Hills.ripen(x, 5);
        for (int s = 0; s < fields.length; s++) {
            if (yielded[s]) {
                check.due("16: the YIELD", x.harvest(first[s], true), 26);
            }
        }
        return x;
    }

    private static void voteAlone() {
        Subakhall x = cropped(new int[] {1}, true);
        check.due("16: CROP", x.ofSociety(0, 5), 26);
        check.due("16: alone there is no MODEL", x.vote(0), 0);
        check.due("16: \"In any case its CROP is 0 then\"", x.ofSociety(0, 5), 0);
        Subakhall pests = withPests(1, 1, 1);
        check.due("16: YES by PESTS, without a MODEL", pests.vote(0), 1);
        check.due("16: \"and a MODEL\": FROM stays", pests.ofSociety(0, 0), 0);
        check.due("16: LONG stays", pests.ofSociety(0, 1), 210);
    }

    private static void voteWithoutFields() {
        Subakhall x = cropped(new int[] {1, 0}, true, false);
        check.due("16: without FIELDS none says YES", x.vote(1), 0);
        check.due("16: none is not more than half of none", x.ofSociety(1, 0), 70);
        check.due("16: one without FIELDS is a MODEL of 0", x.vote(0), 0);
        check.due("16: FROM stays", x.ofSociety(0, 0), 0);
        Subakhall none = new Subakhall();
        none.society(1, 0, 5, 6);
        none.society(1, 0, 7, 8);
        check.due("16: nobody at all", none.vote(0) + none.vote(1), 0);
        check.due("16: WINDOWS stay", none.ofSociety(0, 0) * 10 + none.ofSociety(1, 0), 57);
        // The middle has a FIELD with PESTS; its neighbours have no FIELDS: both are as great.
        Subakhall y = new Subakhall();
        y.society(1, 0, 0, 210);
        y.society(1, 0, 70, 210);
        y.society(1, 0, 140, 210);
        y.field(1, 1, Hills.BUND);
        y.day(0, 0, 30);
        y.puddle(0);
        Check.helpAndPlant(y, 0, 2);
        Hills.breed(y, 0, 31);
        check.due("16: YES by PESTS", y.vote(1), 1);
        check.due("16: \"without FIELDS 0\", the smaller number", y.ofSociety(1, 0), 0);
        modelWithoutFields();
    }

    /** One neighbour without FIELDS and one with a FIELD and no CROP are as great, on either side. */
    private static void modelWithoutFields() {
        for (int neighbour = 0; neighbour <= 2; neighbour += 2) {
            Subakhall x = new Subakhall();
            x.society(1, 0, 0, 210);
            x.society(1, 0, 70, 210);
            x.society(1, 0, 140, 210);
            x.field(1, 1, Hills.BUND);
            x.field(neighbour, 1, Hills.BUND);
            x.day(0, 0, 30);
            x.puddle(0);
            Check.helpAndPlant(x, 0, 2);
            Hills.breed(x, 0, 31);
            check.due("16: YES by PESTS", x.vote(1), 1);
            check.due("16: \"without FIELDS 0\", no less", x.ofSociety(1, 0), 0);
        }
        Subakhall y = cropped(new int[] {0, 1, 1}, false, false, true);
        check.due("16: 26 is more than the 0 of one without FIELDS", y.vote(1), 1);
        check.due("16: FROM of the one with FIELDS", y.ofSociety(1, 0), 140);
    }

    private static void looksAtNeighbours() {
        Subakhall far = cropped(new int[] {1, 1, 1}, false, false, true);
        check.due("16: 0 does not look at 2", far.vote(0), 0);
        check.due("16: 2 has the greatest", far.vote(2), 0);
        Subakhall more = cropped(new int[] {1, 1, 1}, false, false, true);
        check.due("16: 1 looks at \"one more\"", more.vote(1), 1);
        check.due("16: FROM of 2", more.ofSociety(1, 0), 140);
        Subakhall less = cropped(new int[] {1, 1, 1}, true, false, false);
        check.due("16: 2 does not look at 0", less.vote(2), 0);
        check.due("16: FROM of 2 stays", less.ofSociety(2, 0), 140);
        check.due("16: 1 looks at \"one less\"", less.vote(1), 1);
        check.due("16: FROM of 0", less.ofSociety(1, 0), 0);
        Subakhall middle = cropped(new int[] {1, 1, 1}, false, true, false);
        check.due("16: 0 looks at 1", middle.vote(0), 1);
        check.due("16: 2 looks at 1", middle.vote(2), 1);
        check.due("16: both have FROM of 1", middle.ofSociety(0, 0) + middle.ofSociety(2, 0), 140);
    }

    private static void moreThanTheOwn() {
        Subakhall same = cropped(new int[] {1, 1}, true, true);
        check.due("16: as much is not more", same.vote(0), 0);
        Subakhall lower = cropped(new int[] {1, 2}, true, true);
        check.due("16: 13 for each is not more than 26", lower.vote(0), 0);
        Subakhall higher = cropped(new int[] {1, 2}, true, true);
        check.due("16: 26 for each is more than 13", higher.vote(1), 2);
        check.due("16: FROM of the MODEL", higher.ofSociety(1, 0), 0);
        Subakhall nothing = cropped(new int[] {1, 1}, false, false);
        check.due("16: 0 is not more than 0", nothing.vote(0) + nothing.vote(1), 0);
    }

    /** Three SOCIETIES of 3 FIELDS each: one YIELDED 26, and another one 24. */
    private static Subakhall of26And24(int whole, int hurt) {
        Subakhall x = new Subakhall();
        for (int s = 0; s < 3; s++) {
            x.society(1, 0, 70 * s, 210);
        }
        for (int f = 0; f < 9; f++) {
            x.field(f / 3, 1, f / 3 == hurt ? 25 : 20);
        }
        x.day(0, 0, 30);
        for (int f : new int[] {3 * hurt, 3 * whole}) {
            x.puddle(f);
            Check.helpAndPlant(x, f, 0);
            x.ducks(f, true);
        }
        // With a BUND of 25 it is 22 deep on two days, and hurt by 2 on each.
        x.day(0, 40, 30);
        x.day(0, 19, 30);
        for (int warmth : new int[] {1, 40, 40, 10}) {
            x.day(0, warmth, 0);
        }
        check.due("16: the YIELD of VIGOUR 100", x.harvest(3 * whole, true), 26);
        check.due("16: the YIELD of VIGOUR 96", x.harvest(3 * hurt, true), 24);
        return x;
    }

    private static void roundedDown() {
        Subakhall x = of26And24(0, 1);
        check.due("16: 26 of 3 \"rounded down\" is not more than 24 of 3", x.vote(1), 0);
        check.due("16: FROM stays", x.ofSociety(1, 0), 70);
        Subakhall y = of26And24(2, 0);
        check.due("16: 8 is more than 0", y.vote(1), 3);
        check.due("16: 24 of 3 is as great as 26 of 3, \"the smaller number\"", y.ofSociety(1, 0), 0);
    }

    private static void ofTwoAsGreat() {
        Subakhall same = cropped(new int[] {1, 1, 1}, true, false, true);
        check.due("16: both are more than the own", same.vote(1), 1);
        check.due("16: \"of two as great the smaller number\"", same.ofSociety(1, 0), 0);
        Subakhall up = cropped(new int[] {2, 1, 1}, true, false, true);
        check.due("16: 26 and 13", up.vote(1), 1);
        check.due("16: \"the greater CROP for each of its FIELDS\"", up.ofSociety(1, 0), 140);
        Subakhall down = cropped(new int[] {1, 1, 2}, true, false, true);
        check.due("16: 13 and 26", down.vote(1), 1);
        check.due("16: the smaller number with the greater CROP", down.ofSociety(1, 0), 0);
    }

    /** SOCIETY 0 with FIELDS, of which the first ones have PESTS of 37; more SOCIETIES without FIELDS. */
    private static Subakhall withPests(int societies, int fields, int bred) {
        Subakhall x = new Subakhall();
        for (int s = 0; s < societies; s++) {
            x.society(1, 0, 70 * s, 210 - 10 * s);
        }
        for (int f = 0; f < fields; f++) {
            x.field(0, 1, Hills.BUND);
        }
        x.day(0, 0, 30);
        for (int f = 0; f < bred; f++) {
            x.puddle(f);
            Check.helpAndPlant(x, f, 2);
        }
        for (int i = 0; i < 12; i++) {
            Hills.rain(x, 0);
        }
        for (int f = 0; f < bred; f++) {
            check.due("16: PESTS, as many come as leave", x.ofField(f, 8), 37);
        }
        return x;
    }

    private static void pestsAbove30() {
        for (int pests : new int[] {29, 30, 31, 99}) {
            Subakhall x = Hills.growing(2, 1);
            x.society(1, 0, 70, 7);
            Hills.breed(x, 0, pests);
            check.due("16: \"more than 30 PESTS\": " + pests, x.vote(0), pests > 30 ? 1 : 0);
            check.due("16: FROM", x.ofSociety(0, 0), pests > 30 ? 70 : 0);
            check.due("16: LONG", x.ofSociety(0, 1), pests > 30 ? 7 : 210);
        }
    }

    private static void moreThanHalf() {
        for (int fields = 1; fields <= 5; fields++) {
            for (int bred = 0; bred <= fields; bred++) {
                Subakhall x = withPests(2, fields, bred);
                String told = "16: " + bred + " YES of " + fields;
                check.due(told, x.vote(0), bred);
                boolean is = 2 * bred > fields;
                check.due(told + ": FROM", x.ofSociety(0, 0), is ? 70 : 0);
                check.due(told + ": LONG", x.ofSociety(0, 1), is ? 200 : 210);
            }
        }
        Subakhall most = withPests(2, 12, 6);
        check.due("16: 6 of 12", most.vote(0), 6);
        check.due("16: \"2 times YES is more than these\": not 12", most.ofSociety(0, 0), 0);
        Subakhall more = withPests(2, 12, 7);
        check.due("16: 7 of 12", more.vote(0), 7);
        check.due("16: 14 is", more.ofSociety(0, 0), 70);
    }

    private static void countedOnce() {
        // SOCIETY 1 has two FIELDS with PESTS and one without; SOCIETY 0 has the greater CROP.
        Subakhall x = new Subakhall();
        x.society(1, 0, 0, 210);
        x.society(1, 0, 70, 210);
        for (int f = 0; f < 4; f++) {
            x.field(f == 3 ? 0 : 1, 1, Hills.BUND);
        }
        x.day(0, 0, 30);
        for (int f : new int[] {0, 1}) {
            x.puddle(f);
            Check.helpAndPlant(x, f, 2);
        }
        for (int i = 0; i < 12; i++) {
            Hills.rain(x, 0);
        }
        x.puddle(3);
        Check.helpAndPlant(x, 3, 0);
        x.ducks(3, true);
        Hills.rain(x, 40, 40, 20, 0);
        check.due("16: by PESTS alone", x.ofSociety(0, 5), 0);
        check.due("16: two YES", x.vote(1), 2);
        Hills.rain(x, 40, 10);
        check.due("16: RIPE", x.ofField(3, 4), 5);
        x.harvest(3, true);
        check.due("16: by CROP and by PESTS each OWNER says YES once", x.vote(1), 3);
    }

    private static void cropIs0Then() {
        Subakhall not = cropped(new int[] {1, 1}, true, false);
        not.vote(0);
        check.due("16: without YES", not.ofSociety(0, 5), 0);
        check.due("23: what was YIELDED stays", not.many(10), 26);
        Subakhall is = cropped(new int[] {2, 1}, true, true);
        check.due("16: 26 is more than 13", is.vote(0), 2);
        check.due("16: with YES", is.ofSociety(0, 5), 0);
        check.due("16: the CROP of the MODEL stays", is.ofSociety(1, 5), 26);
        check.due("16: again", is.vote(0), 2);
        check.due("16: the MODEL VOTES", is.vote(1), 0);
        check.due("16: its CROP, too", is.ofSociety(1, 5), 0);
        check.due("16: nothing to look up to", is.vote(0), 0);
    }

    private static void windowFromThenOn() {
        Subakhall x = new Subakhall();
        x.society(1, 0, 0, 210);
        x.society(1, 0, 16, 2);
        x.society(1, 0, 100, 3);
        x.field(0, 1, Hills.BUND);
        x.field(1, 1, Hills.BUND);
        x.day(0, 0, 30);
        x.puddle(0);
        x.puddle(1);
        Check.helpAndPlant(x, 0, 2);
        Check.helpAndPlant(x, 1, 2);
        for (int i = 0; i < 12; i++) {
            Hills.rain(x, 0);
        }
        check.due("16: the DAY", x.many(2), 13);
        check.due("16: open ahead of it", x.ofSociety(0, 4), 1);
        x.gate(0, true);
        check.due("16: by PESTS", x.vote(0), 1);
        check.due("16: shut from then on", x.ofSociety(0, 4), 0);
        check.due("16: the MODEL VOTES for another one", x.vote(1), 1);
        check.due("16: FROM of the MODEL is that of 0, which it gave it", x.ofSociety(1, 0), 16);
        int[] want = {0, 0, 3, 3, 0};
        for (int i = 0; i < want.length; i++) {
            x.day(9, 0, 0);
            check.due("16: what is got on " + (14 + i), x.ofField(0, 12), want[i]);
        }
        Subakhall y = withPests(3, 1, 1);
        y.field(1, 1, Hills.BUND);
        y.field(2, 1, Hills.BUND);
        y.day(0, 0, 30);
        y.puddle(2);
        Check.helpAndPlant(y, 2, 0);
        Hills.ripen(y, 5);
        y.harvest(2, false);
        check.due("16: 0 by PESTS", y.vote(0), 1);
        check.due("16: takes the WINDOW of 1", y.ofSociety(0, 0), 70);
        check.due("16: 1 by CROP", y.vote(1), 1);
        check.due("16: takes the WINDOW of 2", y.ofSociety(1, 0), 140);
        check.due("16: 0 keeps what it took", y.ofSociety(0, 0), 70);
    }

    private static void excludedVote() {
        Subakhall x = withPests(2, 1, 1);
        x.stones(0, 5);
        x.inspect(0);
        check.due("16: EXCLUDED", x.ofOwner(0, 3), 1);
        check.due("16: the OWNERS of all its FIELDS", x.vote(0), 1);
        check.due("16: FROM", x.ofSociety(0, 0), 70);
    }
}
