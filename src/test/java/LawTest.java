/** Promises 14 to 16. */
public final class LawTest {
    private static final Check check = new Check("LawTest");

    public static void main(String[] args) {
        inspect();
        sell();
        sellPaysOff();
        voteWithoutModel();
        voteByPests();
        voteByCrop();
        voteOfTheMiddle();
        voteHalf();
        check.end();
    }

    private static void inspect() {
        Subakhall x = new Subakhall();
        x.society(1, 0, 0, 210);
        x.society(1, 0, 0, 210);
        x.field(0, 1, 60);
        x.field(1, 1, 60);
        x.field(0, 1, 60);
        check.due("14: without STONES", x.inspect(0), 0);
        x.stones(0, 2);
        x.stones(1, 1);
        x.stones(2, 5);
        check.due("14: inspect(0)", x.inspect(0), 35);
        check.due("14: the CHEST", x.ofSociety(0, 2), 35);
        check.due("14: the other CHEST", x.ofSociety(1, 2), 0);
        check.due("14: COINS of 0", x.ofOwner(0, 0), 10);
        check.due("14: COINS of 2 are below 0", x.ofOwner(2, 0), -5);
        check.due("14: EXCLUDED", x.ofOwner(2, 3), 1);
        check.due("14: EXCLUDED of all", x.many(8), 1);
        check.due("14: the STONES of the other stay", x.many(11), 1);
        check.due("14: inspect(0) again", x.inspect(0), 0);
        check.noSuch("14: inspect(2)", x, () -> x.inspect(2));
        check.noSuch("14: inspect(-1)", x, () -> x.inspect(-1));
    }

    private static void sell() {
        Subakhall x = Check.ripe();
        check.badState("15: without RICE", x, () -> x.sell(0, 1));
        x.harvest(0, true);
        check.badState("15: more than there is", x, () -> x.sell(0, 25));
        check.badState("15: far more", x, () -> x.sell(0, Integer.MAX_VALUE));
        check.badArgument("15: sell(0, 0)", x, () -> x.sell(0, 0));
        check.badArgument("15: sell(0, -1)", x, () -> x.sell(0, -1));
        check.noSuch("15: sell(1, 0)", x, () -> x.sell(1, 0));
        check.noSuch("15: sell(-1, 1)", x, () -> x.sell(-1, 1));
        check.due("15: sell(0, 4)", x.sell(0, 4), 24);
        check.due("15: RICE then", x.ofOwner(0, 2), 20);
        check.due("15: all of it", x.sell(0, 20), 44);
        check.due("15: no RICE then", x.ofOwner(0, 2), 0);
        check.due("15: COINS of all", x.many(6), 44);
    }

    private static void sellPaysOff() {
        Subakhall x = Check.ripe();
        x.harvest(0, true);
        x.stones(0, 5);
        x.inspect(0);
        check.due("15: EXCLUDED", x.ofOwner(0, 3), 1);
        check.due("15: sells", x.sell(0, 5), 0);
        check.due("15: EXCLUDED no more", x.ofOwner(0, 3), 0);
    }

    private static void voteWithoutModel() {
        Subakhall x = Check.ripe();
        x.harvest(0, true);
        check.due("16: vote(0)", x.vote(0), 0);
        check.due("16: its CROP is 0 then", x.ofSociety(0, 5), 0);
        check.due("16: all that was YIELDED stays", x.many(10), 26);
        check.noSuch("16: vote(1)", x, () -> x.vote(1));
        check.noSuch("16: vote(-1)", x, () -> x.vote(-1));
    }

    private static void voteByPests() {
        Subakhall y = Check.planted(2);
        Check.breed(y, 9, false);
        Check.breed(y, 1, true);
        Check.breed(y, 1, false);
        Check.breed(y, 2, true);
        check.due("16: PESTS", y.ofField(0, 8), 30);
        check.due("16: 30 PESTS do not alarm", y.vote(0), 0);
        Subakhall x = Check.planted(2);
        Check.breed(x, 9, false);
        Check.breed(x, 1, true);
        Check.breed(x, 2, false);
        check.due("16: PESTS", x.ofField(0, 8), 31);
        check.due("16: 31 PESTS do", x.vote(0), 1);
        check.due("16: without a MODEL FROM stays", x.ofSociety(0, 0), 0);
        x.society(1, 0, 40, 50);
        x.society(1, 0, 60, 70);
        check.due("16: with a MODEL", x.vote(0), 1);
        check.due("16: FROM of the MODEL", x.ofSociety(0, 0), 40);
        check.due("16: LONG of the MODEL", x.ofSociety(0, 1), 50);
    }

    /** Society 0 with two fields, of which the first is ripe and yields 26; two more societies. */
    private static Subakhall besideARipeOne(int fieldsOfOne) {
        Subakhall x = new Subakhall();
        x.society(1, 0, 5, 205);
        x.society(1, 0, 50, 60);
        x.society(1, 0, 70, 80);
        x.field(0, 1, 60);
        x.day(0, 0, 20);
        x.puddle(0);
        Check.helpAndPlant(x, 0, 0);
        for (int i = 0; i < 4; i++) {
            x.day(0, 40, 3);
        }
        x.field(0, 1, 60);
        for (int i = 0; i < fieldsOfOne; i++) {
            x.field(1, 1, 60);
        }
        return x;
    }

    private static void voteByCrop() {
        Subakhall x = besideARipeOne(3);
        check.due("16: nobody has a CROP", x.vote(1), 0);
        x.harvest(0, true);
        check.due("16: a CROP of 26 for 2 FIELDS", x.ofSociety(0, 5), 26);
        check.due("16: all say YES", x.vote(1), 3);
        check.due("16: FROM", x.ofSociety(1, 0), 5);
        check.due("16: LONG", x.ofSociety(1, 1), 205);
        check.due("16: the CROP of the MODEL stays", x.ofSociety(0, 5), 26);
        check.due("16: the MODEL's own vote", x.vote(0), 0);
        check.due("16: its CROP is 0 then", x.ofSociety(0, 5), 0);
        check.due("16: nothing to look up to", x.vote(1), 0);
        Subakhall y = besideARipeOne(0);
        y.harvest(0, true);
        check.due("16: without FIELDS nobody says YES", y.vote(1), 0);
        check.due("16: and the WINDOW stays", y.ofSociety(1, 0), 50);
        check.due("16: 2 looks at 1 alone", y.vote(2), 0);
    }

    private static void voteOfTheMiddle() {
        Subakhall x = besideARipeOne(1);
        x.field(2, 1, 60);
        while (x.ofField(3, 8) <= 30) {
            growPests(x, 3);
        }
        // Field 2, of society 1, has no pests: its owner looks at the crops of 0 and 2, both 0.
        check.due("16: of two as great no YES by CROP", x.vote(1), 0);
        int[] own = {x.ofSociety(1, 0), x.ofSociety(1, 1)};
        check.due("16: WINDOW stays", own[0], 50);
        check.due("16: society 2 by PESTS", x.vote(2), 1);
        check.due("16: takes the WINDOW of 1", x.ofSociety(2, 0), 50);
        Subakhall y = besideARipeOne(0);
        y.field(1, 1, 60);
        while (y.ofField(2, 8) <= 30) {
            growPests(y, 2);
        }
        check.due("16: the middle by PESTS", y.vote(1), 1);
        check.due("16: of two as great the smaller number", y.ofSociety(1, 0), 5);
        Subakhall z = threeToVote();
        check.due("16: the middle by the greater CROP", z.vote(1), 1);
        check.due("16: that of the greater number", z.ofSociety(1, 0), 70);
    }

    private static void growPests(Subakhall x, int field) {
        if (x.ofField(field, 4) == 0) {
            while (x.ofField(field, 1) < 10) {
                x.day(0, 0, 5);
            }
            x.puddle(field);
            Check.helpAndPlant(x, field, 2);
        }
        x.day(0, 0, 3);
    }

    /** Society 2 has a crop of 26 for 1 field, society 0 of 26 for 2, society 1 has none. */
    private static Subakhall threeToVote() {
        Subakhall x = besideARipeOne(1);
        x.field(2, 1, 60);
        x.harvest(0, true);
        while (x.ofField(3, 1) < 18) {
            x.day(0, 0, 5);
        }
        x.puddle(3);
        Check.helpAndPlant(x, 3, 0);
        while (x.ofField(3, 4) != 5) {
            x.day(0, 40, 3);
        }
        x.harvest(3, true);
        return x;
    }

    private static void voteHalf() {
        Subakhall x = new Subakhall();
        x.society(1, 0, 0, 210);
        x.society(1, 0, 9, 99);
        x.field(0, 1, 60);
        x.field(0, 1, 60);
        while (x.ofField(0, 8) <= 30) {
            growPests(x, 0);
        }
        check.due("16: one YES of two", x.vote(0), 1);
        check.due("16: a half is not more than a half", x.ofSociety(0, 0), 0);
        x.field(0, 1, 60);
        check.due("16: one YES of three", x.vote(0), 1);
        check.due("16: LONG stays", x.ofSociety(0, 1), 210);
    }
}
