/** Terms, 1: the limits of SOCIETIES, FIELDS and OWNERS, and what each of them is at first. */
public final class SocietyAndFieldEdgesTest {
    private static final Check check = new Check("SocietyAndFieldEdgesTest");

    public static void main(String[] args) {
        atMostThreeSocieties();
        societyLimits();
        societyAtFirst();
        notchesAndLossCount();
        atMostTwelveFields();
        fieldLimits();
        fieldAtFirst();
        theHighestFirst();
        theFieldBelow();
        bund();
        stones();
        gate();
        kindByStage();
        sumAndVigourByStage();
        vigourBetween0And100();
        owners();
        excludedBelow0();
        helpSincePlanted();
        check.end();
    }

    private static void atMostThreeSocieties() {
        Subakhall x = new Subakhall();
        for (int number = 0; number < 3; number++) {
            check.due("1: SOCIETIES ahead", x.many(0), number);
            int there = number;
            check.noSuch("1: no SOCIETY " + there + " so far", x, () -> x.ofSociety(there, 0));
            check.due("1: \"at most 3, numbered from 0\"", x.society(1, 0, number, 1), number);
            check.due("1: its FROM", x.ofSociety(number, 0), number);
        }
        check.badState("2: \"if there are 3\"", x, () -> x.society(1, 0, 0, 1));
        check.due("1: there are 3", x.many(0), 3);
        check.noSuch("1: no SOCIETY 3", x, () -> x.ofSociety(3, 0));
    }

    private static void societyLimits() {
        int[][] last = {{1, 0, 0, 1}, {9, 0, 0, 1}, {1, 50, 0, 1}, {1, 0, 209, 1}, {1, 0, 0, 210},
            {9, 50, 209, 210}};
        for (int[] a : last) {
            Subakhall x = new Subakhall();
            check.due("2: the last allowed", x.society(a[0], a[1], a[2], a[3]), 0);
            check.due("2: FROM", x.ofSociety(0, 0), a[2]);
            check.due("2: LONG", x.ofSociety(0, 1), a[3]);
        }
        int[][] wrong = {{0, 10, -1, Integer.MIN_VALUE, Integer.MAX_VALUE},
            {-1, 51, -2, Integer.MIN_VALUE, Integer.MAX_VALUE},
            {-1, 210, 211, Integer.MIN_VALUE, Integer.MAX_VALUE},
            {0, 211, -1, Integer.MIN_VALUE, Integer.MAX_VALUE}};
        Subakhall x = new Subakhall();
        for (int which = 0; which < 4; which++) {
            for (int value : wrong[which]) {
                int[] a = {1, 0, 0, 1};
                a[which] = value;
                check.badArgument("2: parameter " + which + " of " + value, x,
                        () -> x.society(a[0], a[1], a[2], a[3]));
            }
        }
        check.due("2: none was told", x.many(0), 0);
        check.due("2: the next has the number 0", x.society(1, 0, 0, 1), 0);
    }

    private static void societyAtFirst() {
        Subakhall x = new Subakhall();
        x.society(9, 50, 209, 210);
        int[] want = {209, 210, 0, 0, 1, 0, 0, 0, -1};
        for (int what = 0; what < want.length; what++) {
            check.due("1: at first ofSociety(0, " + what + ")", x.ofSociety(0, what), want[what]);
        }
        check.due("24: \"0 without any\"", x.meanDepth(0), 0.0);
        check.due("25: NONE without FIELDS", x.suspect(0), -1);
        check.due("1: \"it ROTATES, or not (at first)\"", x.rotate(0, false), false);
    }

    private static void notchesAndLossCount() {
        Subakhall x = new Subakhall();
        x.society(9, 0, 0, 210);
        x.society(1, 50, 0, 210);
        x.day(20, 0, 0);
        check.due("1: NOTCHES of 9", x.ofSociety(0, 7), 18);
        check.due("1: NOTCHES of 1", x.ofSociety(1, 7), 2);
        check.due("1: a LOSS of 0 and one of 50", x.water(4), 1);
    }

    private static void atMostTwelveFields() {
        Subakhall x = Hills.of(2, 60);
        for (int number = 0; number < 12; number++) {
            check.due("1: FIELDS ahead", x.many(1), number);
            int there = number;
            check.noSuch("1: no FIELD " + there + " so far", x, () -> x.ofField(there, 0));
            check.due("1: \"at most 12, numbered from 0\"", x.field(number % 2, 1, 5), number);
            check.due("1: its SOCIETY", x.ofField(number, 0), number % 2);
        }
        check.badState("3: \"if there are 12\"", x, () -> x.field(0, 1, 5));
        check.badState("3: of the other SOCIETY, too", x, () -> x.field(1, 9, 60));
        check.due("1: there are 12", x.many(1), 12);
        check.due("1: of each SOCIETY 6", x.ofSociety(0, 6) * 10 + x.ofSociety(1, 6), 66);
        check.noSuch("1: no FIELD 12", x, () -> x.ofField(12, 0));
    }

    private static void fieldLimits() {
        int[][] last = {{1, 5}, {9, 5}, {1, 60}, {9, 60}};
        for (int[] a : last) {
            check.due("3: the last allowed", Hills.of(1, 5).field(0, a[0], a[1]), 0);
        }
        int[][] wrong = {{0, 10, -1, Integer.MIN_VALUE, Integer.MAX_VALUE},
            {4, 61, 0, -1, Integer.MIN_VALUE, Integer.MAX_VALUE}};
        Subakhall x = Hills.of(1, 5);
        for (int which = 0; which < 2; which++) {
            for (int value : wrong[which]) {
                int[] a = {1, 5};
                a[which] = value;
                check.badArgument("3: parameter " + which + " of " + value, x,
                        () -> x.field(0, a[0], a[1]));
            }
        }
        check.due("3: none was told", x.many(1) + x.ofSociety(0, 6), 0);
        check.due("3: the next has the number 0", x.field(0, 1, 5), 0);
        Subakhall notches = Hills.of(1, 5);
        notches.field(0, 9, 60);
        notches.field(0, 1, 60);
        Hills.open(notches, 0, 1);
        notches.day(20, 0, 0);
        check.due("1: a NOTCH of 9", notches.ofField(0, 12), 18);
        check.due("1: a NOTCH of 1", notches.ofField(1, 12), 2);
    }

    private static void fieldAtFirst() {
        Subakhall x = Hills.of(1, 60, 0);
        x.day(50, 40, 0);
        x.field(0, 1, 60);
        int[] want = {0, 0, 0, 0, 0, -1, 0, 0, 0, 20, 0, 0, 0, 0};
        for (int what = 0; what < want.length; what++) {
            check.due("1: at first ofField(1, " + what + ")", x.ofField(1, what), want[what]);
        }
        int[] owner = {20, 0, 0, 0};
        for (int what = 0; what < owner.length; what++) {
            check.due("1: at first ofOwner(1, " + what + ")", x.ofOwner(1, what), owner[what]);
        }
        check.due("1: STONES \"0 at first\"", x.stones(1, 0), 0);
        check.due("1: GATE \"shut (at first)\"", x.gate(1, false), false);
        check.due("1: the least thought at first", x.thought(1, false), 0);
        check.due("1: the most thought at first", x.thought(1, true), 120);
    }

    private static void theHighestFirst() {
        Subakhall x = Hills.of(1, 5, 0, 0, 0);
        x.gate(1, true);
        x.day(30, 0, 0);
        // Field 1 spills 25, of which field 2 spills 20 the same day.
        check.due("1: nothing comes up to the FIELD 0", x.ofField(0, 1), 0);
        check.due("1: the FIELD 1", x.ofField(1, 1), 3);
        check.due("1: the FIELD 2, on the same DAY", x.ofField(2, 1), 3);
        check.due("1: OUT behind the last", x.water(6), 20);
    }

    private static void theFieldBelow() {
        Subakhall x = Hills.of(2, 5, 0, 1);
        Hills.open(x, 0);
        x.day(20, 0, 0);
        // Of 10 for society 0 its field spills 5; the other 10 run out, too.
        check.due("1: without a FIELD BELOW it runs OUT", x.water(6), 15);
        check.due("1: nothing comes to another SOCIETY's", x.ofField(1, 1), 0);
        x.field(0, 1, 60);
        x.day(20, 0, 0);
        // 3 deep and 10 more: 8 spill.
        check.due("1: one that is told later is BELOW from then on", x.ofField(2, 1), 6);
        check.due("1: over one of another SOCIETY", x.ofField(1, 1), 0);
        x.field(0, 1, 60);
        x.day(20, 0, 0);
        check.due("1: the next one by number alone", x.ofField(3, 1), 0);
        check.due("1: that has 6 and 8 less 2", x.ofField(2, 1), 12);
    }

    private static void bund() {
        for (int bund : new int[] {5, 6, 59, 60}) {
            Subakhall at = Check.oneField(bund);
            at.day(bund, 0, 0);
            check.due("2: at the BUND of " + bund + " nothing spills", at.water(6), 0);
            check.due("2: less 1 and 1", at.ofField(0, 1), bund - 2);
            Subakhall above = Check.oneField(bund);
            above.day(bund + 1, 0, 0);
            check.due("2: \"What is above the BUND spills\"", above.water(6), 1);
            check.due("2: the BUND, less 1 and 1", above.ofField(0, 1), bund - 2);
            Subakhall far = Check.oneField(bund);
            far.day(200, 0, 30);
            check.due("2: all that is above it", far.water(6), 230 - bund);
        }
    }

    private static void stones() {
        Subakhall x = Hills.of(1, 60, 0, 0);
        Hills.open(x, 0, 1);
        for (int stones = 0; stones <= 5; stones++) {
            check.due("5: those before", x.stones(0, stones), Math.max(0, stones - 1));
            check.due("23: STONES of all FIELDS", x.many(11), stones);
            // As many parts as both have together come, so that each part is 1.
            x.day(2 + stones, 0, 0);
            check.due("2: \"its NOTCH and STONES together\"", x.ofField(0, 12), 1 + stones);
        }
        for (int wrong : new int[] {6, -1, Integer.MAX_VALUE, Integer.MIN_VALUE}) {
            check.badArgument("5: " + wrong + " STONES", x, () -> x.stones(0, wrong));
        }
        check.due("5: those before a refused call", x.stones(0, 5), 5);
        check.due("5: again as many", x.stones(0, 0), 5);
    }

    private static void gate() {
        Subakhall x = Hills.of(1, 60, 0);
        x.day(10, 0, 0);
        check.due("1: a GATE is shut at first", x.ofField(0, 12), 0);
        check.due("1: and it runs OUT", x.water(6), 10);
        check.due("4: shut once more", x.gate(0, false), false);
        check.due("4: opened", x.gate(0, true), false);
        check.due("4: opened once more", x.gate(0, true), true);
        x.day(10, 0, 0);
        check.due("4: an open one", x.ofField(0, 12), 10);
        check.due("4: shut", x.gate(0, false), true);
        check.due("17: got through it on the last DAY", x.ofField(0, 12), 10);
        check.due("17: though it is shut", x.ofField(0, 13), 0);
    }

    private static void kindByStage() {
        for (int stage = 0; stage <= 5; stage++) {
            Subakhall x = Hills.inStage(stage);
            check.due("1: STAGE", x.ofField(0, 4), stage);
            check.due("1: \"NONE in the STAGES 0 and 1\": " + stage, x.ofField(0, 5), stage <= 1 ? -1 : 0);
        }
        Subakhall x = Check.ripe();
        x.harvest(0, false);
        check.due("1: NONE behind a HARVEST", x.ofField(0, 5), -1);
        x.puddle(0);
        check.due("1: NONE when PUDDLED anew", x.ofField(0, 5), -1);
    }

    private static void sumAndVigourByStage() {
        int[] sums = {0, 0, 0, 60, 100, 150};
        for (int stage = 0; stage <= 5; stage++) {
            Subakhall x = Hills.inStage(stage);
            check.due("17: SUM in the STAGE " + stage, x.ofField(0, 6), sums[stage]);
            check.due("17: VIGOUR in the STAGE " + stage, x.ofField(0, 7), stage <= 1 ? 0 : 100);
        }
        Subakhall x = Check.ripe();
        x.harvest(0, false);
        check.due("17: SUM and VIGOUR behind a HARVEST", x.ofField(0, 6) + x.ofField(0, 7), 0);
        x.puddle(0);
        check.due("17: SUM and VIGOUR when PUDDLED anew", x.ofField(0, 6) + x.ofField(0, 7), 0);
        x.day(3, 40, 0);
        check.due("17: no WARMTH comes to it", x.ofField(0, 6), 0);
        Check.helpAndPlant(x, 0, 1);
        check.due("3: SUM 0 when planted anew", x.ofField(0, 6), 0);
        check.due("3: VIGOUR 100 when planted anew", x.ofField(0, 7), 100);
    }

    private static void vigourBetween0And100() {
        Subakhall x = Hills.growing(0, 1);
        x.ducks(0, true);
        Hills.dry(x, 5);
        // 15, 12, 9, 6, 3 deep; from now on 3 less a day.
        check.due("1: VIGOUR of 100 at most", x.ofField(0, 7), 100);
        Hills.dry(x, 33);
        check.due("2: VIGOUR of 1", x.ofField(0, 7), 1);
        Hills.dry(x, 1);
        check.due("2: \"VIGOUR is 0 at least\"", x.ofField(0, 7), 0);
        Hills.dry(x, 1);
        check.due("2: and stays so", x.ofField(0, 7), 0);
    }

    private static void owners() {
        Subakhall x = Hills.of(1, 60, 0, 0);
        check.due("1: COINS \"20 at first\", of both", x.many(6), 40);
        x.help(1, 0);
        check.due("1: an ACCOUNT falls below 0", x.ofOwner(0, 1), -1);
        check.due("1: the other rises", x.ofOwner(1, 1), 1);
        x.help(0, 1);
        check.due("1: and is 0 again", x.ofOwner(0, 1), 0);
    }

    private static void excludedBelow0() {
        Subakhall x = Check.ripe();
        x.harvest(0, true);
        x.stones(0, 4);
        x.inspect(0);
        check.due("1: 0 COINS", x.ofOwner(0, 0), 0);
        check.due("1: with 0 not EXCLUDED", x.ofOwner(0, 3), 0);
        check.due("23: none is EXCLUDED", x.many(8), 0);
        check.due("19: it could get something", x.ofSociety(0, 8), 0);
        x.sell(0, 4);
        x.stones(0, 1);
        x.inspect(0);
        check.due("1: -1 COIN", x.ofOwner(0, 0), -1);
        check.due("1: \"less than 0 COINS is EXCLUDED\"", x.ofOwner(0, 3), 1);
        check.due("23: one is EXCLUDED", x.many(8), 1);
        check.due("19: NONE could get something", x.ofSociety(0, 8), -1);
        x.day(10, 0, 0);
        check.due("2: an EXCLUDED one gets nothing", x.ofField(0, 12), 0);
        x.sell(0, 1);
        check.due("1: with 0 no more", x.ofOwner(0, 3), 0);
        x.day(10, 0, 0);
        check.due("2: and gets something again", x.ofField(0, 12), 10);
    }

    private static void helpSincePlanted() {
        Subakhall x = Hills.growing(0, 1);
        check.due("1: HELP is 0 when planted", x.ofField(0, 11), 0);
        check.due("9: HELP of a GROWING one", x.help(0, 0), 1);
        Hills.ripen(x, 5);
        check.due("9: HELP of a RIPE one", x.help(0, 0), 2);
        x.harvest(0, true);
        check.due("1: behind a HARVEST it stays", x.ofField(0, 11), 2);
        x.puddle(0);
        check.due("1: PUDDLED, too", x.ofField(0, 11), 2);
        check.badState("8: 2 are too few", x, () -> x.plant(0, 0));
        check.due("9: HELP of a PUDDLED one", x.help(0, 0), 3);
        x.plant(0, 0);
        check.due("1: \"since it was planted last\"", x.ofField(0, 11), 0);
    }
}
