/** Terms, 2 (1) to (3), and 5: how WATER is split, and where it stays, at each edge. */
public final class WaterEdgesTest {
    private static final Check check = new Check("WaterEdgesTest");

    public static void main(String[] args) {
        limitsOfADay();
        restAtFirst();
        restWithoutSocieties();
        restOfThree();
        restForTheSmall();
        loss();
        lossOfWhatIsLeft();
        lossOfWhatIsNotShared();
        oneFieldGetsAll();
        twelveFields();
        leftStays();
        leftRunsOut();
        noneThatGets();
        excludedCountForNothing();
        rotatesByOne();
        rotatesWithLeft();
        turnsOfOneAndOfNone();
        turnsByNumber();
        turnOfANewField();
        rainAlone();
        seeps();
        seepsBelow();
        drinks();
        dryDays();
        cracks();
        closed();
        check.end();
    }

    private static void limitsOfADay() {
        Subakhall x = Hills.of(1, 60, 0);
        int[][] last = {{0, 0, 0}, {200, 0, 0}, {0, 40, 0}, {0, 0, 30}, {200, 40, 30}};
        for (int i = 0; i < last.length; i++) {
            check.due("13: the last allowed", x.day(last[i][0], last[i][1], last[i][2]), i + 1);
        }
        int[][] wrong = {{-1, 201}, {-1, 41}, {-1, 31}};
        for (int which = 0; which < 3; which++) {
            int[] values = {wrong[which][0], wrong[which][1], Integer.MIN_VALUE, Integer.MAX_VALUE};
            for (int value : values) {
                int[] a = {0, 0, 0};
                a[which] = value;
                check.badArgument("13: parameter " + which + " of " + value, x,
                        () -> x.day(a[0], a[1], a[2]));
            }
        }
        check.due("13: the next DAY", x.day(0, 0, 0), 6);
        check.due("5: what came of all these", x.water(0), 460);
    }

    private static void restAtFirst() {
        Subakhall x = Hills.of(1, 60, 0);
        check.due("2: \"the REST (0 at first)\"", x.water(2), 0);
        x.day(0, 0, 0);
        check.due("2: a FLOW of 0", x.ofSociety(0, 7), 0);
        x.day(200, 0, 0);
        check.due("2: one SOCIETY gets all", x.ofSociety(0, 7), 200);
        check.due("2: nothing is the REST", x.water(2), 0);
    }

    private static void restWithoutSocieties() {
        Subakhall x = new Subakhall();
        for (int day = 1; day <= 5; day++) {
            x.day(200, 40, 30);
            check.due("2: \"Without SOCIETIES all is REST\"", x.water(2), 200 * day);
            check.due("5: without FIELDS no RAIN came", x.water(0), 200 * day);
        }
        x.society(1, 0, 0, 210);
        x.society(3, 0, 0, 210);
        check.due("2: it waits", x.water(2), 1000);
        check.due("19: got at the weir on the last DAY", x.ofSociety(0, 7), 0);
        x.day(1, 0, 0);
        check.due("2: \"FLOW and the REST\", of 4 parts 1", x.ofSociety(0, 7), 250);
        check.due("2: of 4 parts 3", x.ofSociety(1, 7), 750);
        check.due("2: \"what is not given is the REST\"", x.water(2), 1);
        x.day(0, 0, 0);
        check.due("2: 1 is too little to split", x.ofSociety(0, 7) + x.ofSociety(1, 7), 0);
        check.due("2: and is the REST again", x.water(2), 1);
        x.day(3, 0, 0);
        check.due("2: 4 of 4 parts", x.ofSociety(1, 7), 3);
        check.due("2: no REST", x.water(2), 0);
    }

    private static void restOfThree() {
        Subakhall x = new Subakhall();
        for (int s = 0; s < 3; s++) {
            x.society(9, 0, 0, 210);
        }
        x.day(200, 0, 0);
        for (int s = 0; s < 3; s++) {
            check.due("2: a third of 200", x.ofSociety(s, 7), 66);
        }
        check.due("2: a REST of 2", x.water(2), 2);
        x.day(1, 0, 0);
        check.due("2: a third of 3", x.ofSociety(2, 7), 1);
        check.due("2: the REST begins anew", x.water(2), 0);
    }

    private static void restForTheSmall() {
        Subakhall x = new Subakhall();
        x.society(1, 0, 0, 210);
        x.society(9, 0, 0, 210);
        x.day(9, 0, 0);
        check.due("2: rounded down to 0", x.ofSociety(0, 7), 0);
        check.due("2: rounded down to 8", x.ofSociety(1, 7), 8);
        check.due("2: REST", x.water(2), 1);
    }

    private static void loss() {
        int[][] cases = {{0, 200, 0}, {1, 99, 0}, {1, 100, 1}, {1, 199, 1}, {1, 200, 2}, {50, 1, 0},
            {50, 2, 1}, {50, 3, 1}, {50, 200, 100}, {49, 200, 98}, {33, 3, 0}, {33, 4, 1},
            {50, 0, 0}};
        for (int[] c : cases) {
            Subakhall x = new Subakhall();
            x.society(1, c[0], 0, 210);
            x.day(c[1], 0, 0);
            check.due("2: a LOSS of " + c[0] + " of " + c[1], x.water(4), c[2]);
            check.due("2: the rest of it", x.water(6), c[1] - c[2]);
            check.due("19: got at the weir, the LOSS among it", x.ofSociety(0, 7), c[1]);
        }
    }

    private static void lossOfWhatIsLeft() {
        Subakhall x = new Subakhall();
        x.society(1, 50, 0, 210);
        for (int f = 0; f < 5; f++) {
            x.field(0, 1, 60);
            x.gate(f, true);
        }
        x.day(8, 0, 0);
        check.due("2: 4 sink, and 4 are LEFT", x.water(4) * 10 + x.ofSociety(0, 3), 44);
        x.day(0, 0, 0);
        check.due("2: of what is LEFT none sinks", x.water(4) * 10 + x.ofSociety(0, 3), 44);
        x.day(2, 0, 0);
        // Of the 2 that it got 1 sinks; the other and 4 are 1 for each FIELD, in which it sinks.
        check.due("2: of what it got alone", x.water(4), 4 + 1 + 5);
        check.due("2: 5 of 5", x.ofField(4, 12) * 10 + x.ofSociety(0, 3), 10);
    }

    private static void lossOfWhatIsNotShared() {
        Subakhall x = new Subakhall();
        x.society(1, 50, 10, 1);
        x.field(0, 1, 60);
        x.gate(0, true);
        x.day(100, 0, 0);
        check.due("2: behind a shut WINDOW the LOSS sinks, too", x.water(4), 50);
        check.due("2: and all that is left of it runs OUT", x.water(6), 50);
    }

    private static void oneFieldGetsAll() {
        for (int notch : new int[] {1, 9}) {
            Subakhall x = Hills.of(1, 60);
            x.field(0, notch, 60);
            x.gate(0, true);
            x.day(59, 0, 0);
            check.due("2: one gets all", x.ofField(0, 12), 59);
            check.due("2: and nothing is LEFT", x.ofSociety(0, 3), 0);
        }
    }

    /** One society with twelve fields of notch 9 and 5 stones: 168 parts, 14 each. */
    private static Subakhall twelve() {
        Subakhall x = Hills.of(1, 60);
        for (int f = 0; f < 12; f++) {
            x.field(0, 9, 60);
            x.stones(f, 5);
            x.gate(f, true);
        }
        return x;
    }

    private static void twelveFields() {
        Subakhall x = twelve();
        x.day(200, 0, 0);
        for (int f = 0; f < 12; f++) {
            check.due("2: 200 of 12 as great", x.ofField(f, 12), 16);
        }
        check.due("2: \"What is not given is LEFT\"", x.ofSociety(0, 3), 8);
        x.day(3, 0, 0);
        check.due("2: 11 are too few for 12", x.ofField(0, 12) + x.ofField(11, 12), 0);
        check.due("2: and LEFT again", x.ofSociety(0, 3), 11);
        x.day(1, 0, 0);
        check.due("2: 12 are enough", x.ofField(0, 12) + x.ofField(11, 12), 2);
        check.due("2: nothing is LEFT", x.ofSociety(0, 3), 0);
        check.due("21: closed", x.isClosed(), true);
    }

    private static void leftStays() {
        Subakhall x = new Subakhall();
        x.society(1, 50, 0, 210);
        x.society(1, 0, 0, 210);
        for (int f = 0; f < 6; f++) {
            x.field(f / 3, 1, 60);
            x.gate(f, true);
        }
        x.day(4, 0, 0);
        // 2 each, of which 1 sinks in the first: 1 is LEFT there, 2 are LEFT in the second.
        check.due("1: what is LEFT in its own divider", x.ofSociety(0, 3), 1);
        check.due("1: of another SOCIETY", x.ofSociety(1, 3), 2);
        check.due("20: LEFT of all", x.water(3), 3);
        check.due("2: the LOSS", x.water(4), 1);
        x.day(0, 0, 0);
        check.due("2: LEFT is not lost", x.water(4), 1);
        check.due("2: LEFT is LEFT again", x.water(3), 3);
        x.day(4, 0, 0);
        check.due("2: 1 and 1", x.ofSociety(0, 3), 2);
        check.due("2: 2 and 2 are 1 each", x.ofSociety(1, 3), 1);
        check.due("2: got 1 each", x.ofField(3, 12), 1);
    }

    private static void leftRunsOut() {
        Subakhall x = new Subakhall();
        x.society(1, 0, 0, 2);
        x.field(0, 1, 60);
        x.field(0, 1, 60);
        Hills.open(x, 0, 1);
        x.day(1, 0, 0);
        check.due("2: LEFT as the WINDOW is open", x.ofSociety(0, 3), 1);
        check.due("2: nothing runs OUT", x.water(6), 0);
        x.day(6, 0, 0);
        check.due("2: the WINDOW is shut: \"nothing is LEFT\"", x.ofSociety(0, 3), 0);
        check.due("2: \"all of it runs OUT\"", x.water(6), 7);
        check.due("21: closed", x.isClosed(), true);
    }

    private static void noneThatGets() {
        Subakhall none = Hills.of(1, 60);
        none.day(7, 0, 0);
        check.due("2: without FIELDS all runs OUT", none.water(6), 7);
        Subakhall x = Hills.of(1, 60, 0, 0);
        Hills.open(x, 0, 1);
        x.day(1, 0, 0);
        check.due("2: LEFT", x.ofSociety(0, 3), 1);
        Hills.shut(x, 0, 1);
        x.day(6, 0, 0);
        check.due("2: all GATES are shut: \"nothing is LEFT\"", x.ofSociety(0, 3), 0);
        check.due("2: \"all of it runs OUT\"", x.water(6), 7);
        x.rotate(0, true);
        x.day(5, 0, 0);
        check.due("2: by ROTATING, too", x.water(6), 12);
        check.due("19: NONE comes next", x.ofSociety(0, 8), -1);
        noneThatGetsByRotating();
    }

    private static void noneThatGetsByRotating() {
        for (int excluded = 0; excluded <= 1; excluded++) {
            Subakhall x = new Subakhall();
            x.society(1, 50, 0, 210);
            x.field(0, 1, 60);
            x.field(0, 1, 60);
            Hills.open(x, 0, 1);
            x.day(2, 0, 0);
            check.due("2: 1 of 2 sinks, and 1 is LEFT", x.water(4) * 10 + x.ofSociety(0, 3), 11);
            x.rotate(0, true);
            if (excluded == 1) {
                x.stones(0, 5);
                x.stones(1, 5);
                x.inspect(0);
            } else {
                Hills.shut(x, 0, 1);
            }
            x.day(10, 0, 0);
            check.due("2: the LOSS of 10 sinks, too", x.water(4), 6);
            check.due("2: \"all of it runs OUT\", what is LEFT as well", x.water(6), 6);
            check.due("2: \"nothing is LEFT\"", x.ofSociety(0, 3), 0);
            check.due("21: closed", x.isClosed(), true);
        }
    }

    private static void excludedCountForNothing() {
        Subakhall x = Hills.of(1, 60, 0, 0, 0);
        Hills.open(x, 0, 1, 2);
        x.stones(1, 5);
        x.inspect(0);
        x.stones(1, 5);
        x.day(10, 0, 0);
        check.due("2: 5 of 10 for one of two", x.ofField(0, 12), 5);
        check.due("2: EXCLUDED, with 5 STONES", x.ofField(1, 12), 0);
        x.gate(2, false);
        x.day(10, 0, 0);
        check.due("2: the only one gets all", x.ofField(0, 12), 10);
        x.stones(0, 5);
        x.inspect(0);
        int out = x.water(6);
        x.day(10, 0, 0);
        check.due("2: none that is not EXCLUDED: OUT", x.water(6) - out, 10);
    }

    private static void rotatesByOne() {
        Subakhall x = Hills.of(1, 60, 0, 0, 0);
        Hills.open(x, 0, 1, 2);
        x.rotate(0, true);
        int[] turns = {0, 1, 2, 0, 1, 2, 0};
        int[] flows = {7, 0, 5, 1, 200, 0, 3};
        for (int i = 0; i < turns.length; i++) {
            check.due("19: who comes next", x.ofSociety(0, 8), turns[i]);
            x.day(flows[i], 0, 0);
            for (int f = 0; f < 3; f++) {
                check.due("2: \"one gets all (also if that is nothing)\"", x.ofField(f, 12),
                        f == turns[i] ? flows[i] : 0);
            }
        }
        check.due("2: STONES count for nothing then: nothing is LEFT", x.ofSociety(0, 3), 0);
    }

    private static void rotatesWithLeft() {
        Subakhall x = Hills.of(1, 60, 0, 0, 0);
        Hills.open(x, 0, 1, 2);
        x.day(5, 0, 0);
        check.due("2: LEFT", x.ofSociety(0, 3), 2);
        x.rotate(0, true);
        x.day(4, 0, 0);
        check.due("2: what is LEFT goes with it", x.ofField(0, 12), 6);
        check.due("2: nothing is LEFT", x.ofSociety(0, 3), 0);
    }

    private static void turnsOfOneAndOfNone() {
        Subakhall one = Hills.of(1, 60, 0);
        one.gate(0, true);
        one.rotate(0, true);
        for (int i = 0; i < 3; i++) {
            check.due("2: \"without a greater one, the first one\"", one.ofSociety(0, 8), 0);
            one.day(3, 0, 0);
            check.due("2: the only one gets it each DAY", one.ofField(0, 12), 3);
        }
        Subakhall x = new Subakhall();
        x.society(1, 0, 0, 3);
        x.rotate(0, true);
        for (int f = 0; f < 3; f++) {
            x.field(0, 1, 60);
        }
        Hills.open(x, 0, 1, 2);
        x.day(3, 0, 0);
        Hills.shut(x, 0, 1, 2);
        x.day(3, 0, 0);
        Hills.open(x, 0, 1, 2);
        check.due("2: a DAY on which none got it takes no turn", x.ofSociety(0, 8), 1);
        x.day(3, 0, 0);
        check.due("2: nor does one with a shut WINDOW", x.ofSociety(0, 8), 1);
        check.due("2: it is shut", x.ofSociety(0, 4), 0);
    }

    private static void turnsByNumber() {
        Subakhall x = Hills.of(2, 60, 1, 0, 1, 0, 0, 1);
        Hills.open(x, 0, 1, 2, 3, 4, 5);
        x.rotate(0, true);
        x.day(4, 0, 0);
        check.due("2: the first of its own", x.ofField(1, 12), 2);
        check.due("2: the other does not ROTATE", x.ofField(0, 12), 0);
        check.due("2: the next of its own", x.ofSociety(0, 8), 3);
        x.gate(3, false);
        check.due("2: over a shut GATE", x.ofSociety(0, 8), 4);
        x.day(4, 0, 0);
        x.gate(3, true);
        x.gate(1, false);
        check.due("2: behind the greatest, the first that is open", x.ofSociety(0, 8), 3);
        x.day(4, 0, 0);
        check.due("2: who got it", x.ofField(3, 12), 2);
        x.rotate(0, false);
        check.due("19: \"whether it does\", or not", x.ofSociety(0, 8), 4);
        x.day(4, 0, 0);
        check.due("2: what is got without ROTATING is no turn", x.ofSociety(0, 8), 4);
    }

    private static void turnOfANewField() {
        Subakhall x = Hills.of(1, 60, 0, 0);
        Hills.open(x, 0, 1);
        x.rotate(0, true);
        x.day(4, 0, 0);
        x.day(4, 0, 0);
        check.due("2: the first again", x.ofSociety(0, 8), 0);
        x.field(0, 1, 60);
        check.due("2: a shut one does not come next", x.ofSociety(0, 8), 0);
        x.gate(2, true);
        check.due("2: a greater number comes next", x.ofSociety(0, 8), 2);
    }

    private static void rainAlone() {
        Subakhall x = Hills.of(2, 60, 0, 1, 1);
        x.day(0, 0, 30);
        for (int f = 0; f < 3; f++) {
            check.due("2: RAIN comes to each FIELD", x.ofField(f, 1), 28);
            check.due("17: not through its GATE", x.ofField(f, 12), 0);
        }
        check.due("5: \"RAIN for each FIELD\"", x.water(0), 90);
        x.field(0, 1, 60);
        x.day(0, 0, 1);
        check.due("5: of as many as there are then", x.water(0), 94);
    }

    /** A FALLOW FIELD with CRACKS that was dry, on a DAY on which that much WATER comes. */
    private static Subakhall cracked(int cracks, int came) {
        Subakhall x = Check.oneField(60);
        Hills.dry(x, 3 * cracks);
        check.due("2: CRACKS", x.ofField(0, 2), cracks);
        x.day(came, 0, 0);
        return x;
    }

    private static void seeps() {
        // By CRACKS and what came: what sank, ran OUT, was DRUNK.
        int[][][] want = {
            {{0, 0, 0}, {1, 0, 0}, {1, 0, 1}, {1, 0, 1}},
            {{0, 0, 0}, {1, 0, 0}, {1, 1, 0}, {1, 1, 1}, {1, 1, 1}},
            {{0, 0, 0}, {1, 0, 0}, {1, 1, 0}, {2, 1, 0}, {2, 1, 1}, {2, 1, 1}},
            {{0, 0, 0}, {1, 0, 0}, {1, 1, 0}, {2, 1, 0}, {2, 2, 0}, {2, 2, 1}, {2, 2, 1}}};
        for (int cracks = 0; cracks <= 3; cracks++) {
            for (int came = 0; came < want[cracks].length; came++) {
                Subakhall x = cracked(cracks, came);
                int[] due = want[cracks][came];
                String told = "2: " + cracks + " CRACKS, " + came + " came: ";
                check.due(told + "sank", x.water(4), due[0]);
                check.due(told + "OUT", x.water(6), due[1]);
                check.due(told + "DRUNK", x.water(5), due[2]);
                check.due(told + "stands", x.ofField(0, 1), came - due[0] - due[1] - due[2]);
            }
        }
        Subakhall far = cracked(3, 60);
        check.due("2: 1 and 3 CRACKS seep of 60, 1 is DRUNK", far.ofField(0, 1), 55);
    }

    private static void seepsBelow() {
        Subakhall x = Hills.of(1, 60, 0, 0);
        Hills.dry(x, 9);
        x.gate(0, true);
        x.day(60, 0, 0);
        // Of 4 that seep 2 come to the field below: 2 of these seep, of which 1 runs out.
        check.due("2: \"a half of that goes BELOW\"", x.water(4), 3);
        check.due("2: \"without a FIELD there runs OUT\"", x.water(6), 1);
        check.due("2: the FIELD below is DRY yet", x.ofField(1, 3), 10);
        check.due("17: that came not through its GATE", x.ofField(1, 12), 0);
    }

    private static void drinks() {
        // By the STAGE: DRUNK of 0, 1, 2, 3, and 4 that came to a dry FIELD, of which 1 seeps.
        for (int stage = 0; stage <= 5; stage++) {
            int thirst = stage >= 2 && stage <= 4 ? 2 : 1;
            int[] want = {0, 0, 1, thirst, thirst};
            for (int came = 0; came <= 4; came++) {
                Subakhall x = Hills.inStage(stage);
                while (x.ofField(0, 1) > 0) {
                    x.day(0, 0, 0);
                }
                int drunk = x.water(5);
                x.day(came, 0, 0);
                check.due("2: the STAGE", x.ofField(0, 4), stage);
                check.due("2: CRACKS", x.ofField(0, 2), 0);
                check.due("2: DRINKS in the STAGE " + stage + " of " + came, x.water(5) - drunk, want[came]);
            }
        }
        drinksByTheStageAhead();
    }

    private static void drinksByTheStageAhead() {
        Subakhall x = Hills.inStage(4);
        x.day(3, 40, 0);
        x.day(3, 9, 0);
        check.due("2: SUM", x.ofField(0, 6), 149);
        int drunk = x.water(5);
        x.day(3, 1, 0);
        check.due("2: RIPE as the DAY ends", x.ofField(0, 4), 5);
        check.due("2: it DRINKS ahead of that", x.water(5) - drunk, 2);
        x.day(3, 1, 0);
        check.due("2: and then 1", x.water(5) - drunk, 3);
    }

    private static void dryDays() {
        Subakhall x = Check.oneField(60);
        check.due("1: days DRY, 0", x.ofField(0, 3), 0);
        x.day(2, 0, 0);
        check.due("2: what it drank does not help: DRY", x.ofField(0, 3), 1);
        x.day(2, 0, 0);
        check.due("2: \"one day more\"", x.ofField(0, 3), 2);
        x.day(3, 0, 0);
        check.due("2: 1 deep", x.ofField(0, 1), 1);
        check.due("2: \"otherwise it is DRY for 0 days\"", x.ofField(0, 3), 0);
        x.day(0, 0, 0);
        check.due("2: anew", x.ofField(0, 3), 1);
        x.day(0, 0, 0);
        check.due("2: 2 in a row", x.ofField(0, 3), 2);
        check.due("2: 4 of 5 were DRY, and no CRACK is there", x.ofField(0, 2), 0);
        x.day(0, 0, 0);
        check.due("2: 3 in a row", x.ofField(0, 2), 1);
    }

    private static void cracks() {
        Subakhall x = Check.oneField(60);
        int[] want = {0, 0, 1, 1, 1, 2, 2, 2, 3, 3, 3, 3, 3, 3, 3, 3};
        for (int i = 0; i < want.length; i++) {
            x.day(0, 0, 0);
            check.due("2: DRY", x.ofField(0, 3), i + 1);
            check.due("2: \"one CRACK more, 3 at most\" on " + (i + 1), x.ofField(0, 2), want[i]);
        }
        Subakhall y = Check.oneField(60);
        Hills.dry(y, 4);
        y.day(20, 0, 0);
        check.due("2: WATER takes no CRACK away", y.ofField(0, 2), 1);
        while (y.ofField(0, 1) > 0) {
            y.day(0, 0, 0);
        }
        check.due("2: DRY begins anew", y.ofField(0, 3), 1);
        y.day(0, 0, 0);
        check.due("2: not on the second", y.ofField(0, 2), 1);
        y.day(0, 0, 0);
        check.due("2: another CRACK on the third", y.ofField(0, 2), 2);
    }

    private static void closed() {
        Subakhall empty = new Subakhall();
        check.due("21: nothing came", empty.isClosed(), true);
        empty.day(200, 0, 30);
        check.due("21: all is REST", empty.isClosed(), true);
        Subakhall x = twelve();
        for (int i = 0; i < 400; i++) {
            x.day(i % 3 * 100, 0, i % 4 * 10);
        }
        check.due("21: of 400 DAYS with 12 FIELDS", x.isClosed(), true);
        check.due("5: what came of all days", x.water(0), 39900 + 12 * 6000);
        int gone = 0;
        for (int what = 1; what <= 6; what++) {
            gone += x.water(what);
        }
        check.due("5: is what stands, is LEFT, sank, was DRUNK and ran OUT", gone, x.water(0));
    }
}
