/** Promises 1 to 6. */
public final class SocietiesAndFieldsTest {
    private static final Check check = new Check("SocietiesAndFieldsTest");

    public static void main(String[] args) {
        newObject();
        society();
        societyRefuses();
        field();
        fieldRefuses();
        gate();
        stones();
        rotate();
        check.end();
    }

    private static void newObject() {
        Subakhall x = new Subakhall();
        for (int what = 0; what <= 11; what++) {
            check.due("1: many(" + what + ")", x.many(what), what == 4 ? 1 : 0);
        }
        for (int what = 0; what <= 6; what++) {
            check.due("1: water(" + what + ")", x.water(what), 0);
        }
        check.due("1: isClosed()", x.isClosed(), true);
        check.due("1: ripeIn(40)", x.ripeIn(40), -1);
        check.due("1: plan(2, 30)", x.plan(2, 30), 0);
        check.noSuch("1: ofSociety(0, 0)", x, () -> x.ofSociety(0, 0));
        check.noSuch("1: ofField(0, 0)", x, () -> x.ofField(0, 0));
        x.day(50, 10, 10);
        check.due("1: REST without societies", x.water(2), 50);
        check.due("1: what came without fields", x.water(0), 50);
    }

    private static void society() {
        Subakhall x = new Subakhall();
        check.due("2: society(1, 0, 0, 1)", x.society(1, 0, 0, 1), 0);
        check.due("2: society(9, 50, 209, 210)", x.society(9, 50, 209, 210), 1);
        check.due("2: society(4, 7, 33, 44)", x.society(4, 7, 33, 44), 2);
        int[] want = {33, 44, 0, 0, 0, 0, 0, 0, -1};
        for (int what = 0; what < want.length; what++) {
            check.due("2: ofSociety(2, " + what + ")", x.ofSociety(2, what), want[what]);
        }
        check.due("2: WINDOW of 0 is open on day 0", x.ofSociety(0, 4), 1);
        check.due("2: WINDOW of 1 is open on day 0", x.ofSociety(1, 4), 1);
        check.badState("2: a fourth", x, () -> x.society(1, 0, 0, 1));
        check.badArgument("2: a wrong fourth", x, () -> x.society(0, 0, 0, 1));
        check.due("2: many(0)", x.many(0), 3);
    }

    private static void societyRefuses() {
        Subakhall x = new Subakhall();
        int[][] wrong = {{0, 0, 0, 1}, {10, 0, 0, 1}, {1, -1, 0, 1}, {1, 51, 0, 1}, {1, 0, -1, 1},
            {1, 0, 210, 1}, {1, 0, 0, 0}, {1, 0, 0, 211}, {Integer.MIN_VALUE, 0, 0, 1},
            {1, Integer.MAX_VALUE, 0, 1}};
        for (int[] w : wrong) {
            check.badArgument("2: society" + java.util.Arrays.toString(w), x,
                    () -> x.society(w[0], w[1], w[2], w[3]));
        }
    }

    private static void field() {
        Subakhall x = new Subakhall();
        x.society(1, 0, 0, 1);
        x.society(1, 0, 0, 1);
        check.due("3: field(1, 1, 5)", x.field(1, 1, 5), 0);
        check.due("3: field(0, 9, 60)", x.field(0, 9, 60), 1);
        int[] want = {1, 0, 0, 0, 0, -1, 0, 0, 0, 20, 0, 0, 0, 0};
        for (int what = 0; what < want.length; what++) {
            check.due("3: ofField(0, " + what + ")", x.ofField(0, what), want[what]);
        }
        int[] owner = {20, 0, 0, 0};
        for (int what = 0; what < owner.length; what++) {
            check.due("3: ofOwner(0, " + what + ")", x.ofOwner(0, what), owner[what]);
        }
        check.due("3: thought(0, false)", x.thought(0, false), 0);
        check.due("3: thought(0, true)", x.thought(0, true), 120);
        for (int number = 2; number < 12; number++) {
            check.due("3: field number", x.field(0, 5, 30), number);
        }
        check.due("3: FIELDS of 0", x.ofSociety(0, 6), 11);
        check.due("3: FIELDS of 1", x.ofSociety(1, 6), 1);
        check.badState("3: a 13th", x, () -> x.field(0, 5, 30));
        check.badArgument("3: a wrong 13th", x, () -> x.field(0, 0, 30));
        check.noSuch("3: a 13th of no society", x, () -> x.field(2, 0, 30));
    }

    private static void fieldRefuses() {
        Subakhall x = new Subakhall();
        check.noSuch("3: field without societies", x, () -> x.field(0, 1, 5));
        x.society(1, 0, 0, 1);
        int[][] wrong = {{0, 5}, {10, 5}, {-1, 5}, {1, 4}, {1, 61}, {1, Integer.MIN_VALUE}};
        for (int[] w : wrong) {
            check.badArgument("3: field(0, " + w[0] + ", " + w[1] + ")", x,
                    () -> x.field(0, w[0], w[1]));
        }
        check.noSuch("3: field(-1, 1, 5)", x, () -> x.field(-1, 1, 5));
        check.noSuch("3: field(1, 0, 0)", x, () -> x.field(1, 0, 0));
        check.due("3: many(1)", x.many(1), 0);
    }

    private static void gate() {
        Subakhall x = new Subakhall();
        x.society(1, 0, 0, 210);
        x.field(0, 1, 60);
        check.due("4: gate(0, false)", x.gate(0, false), false);
        check.due("4: gate(0, true)", x.gate(0, true), false);
        check.due("4: ofField(0, 13) open", x.ofField(0, 13), 1);
        x.day(10, 0, 0);
        check.due("4: an open one gets", x.ofField(0, 12), 10);
        check.due("4: gate(0, true) again", x.gate(0, true), true);
        check.due("4: gate(0, false) shuts", x.gate(0, false), true);
        check.due("4: ofField(0, 13) shut", x.ofField(0, 13), 0);
        x.day(10, 0, 0);
        check.due("4: a shut one gets nothing", x.ofField(0, 12), 0);
        check.due("4: it runs OUT", x.water(6), 10);
        check.noSuch("4: gate(1, true)", x, () -> x.gate(1, true));
        check.noSuch("4: gate(-1, true)", x, () -> x.gate(-1, true));
    }

    private static void stones() {
        Subakhall x = new Subakhall();
        x.society(1, 0, 0, 210);
        x.field(0, 1, 60);
        x.field(0, 2, 60);
        x.gate(0, true);
        x.gate(1, true);
        check.due("5: stones(0, 5)", x.stones(0, 5), 0);
        check.due("5: many(11)", x.many(11), 5);
        x.day(80, 0, 0);
        check.due("5: NOTCH and STONES together", x.ofField(0, 12), 60);
        check.due("5: the other gets less", x.ofField(1, 12), 20);
        check.due("5: stones(0, 0)", x.stones(0, 0), 5);
        check.due("5: many(11) without", x.many(11), 0);
        check.badArgument("5: stones(0, 6)", x, () -> x.stones(0, 6));
        check.badArgument("5: stones(0, -1)", x, () -> x.stones(0, -1));
        check.noSuch("5: stones(2, 6)", x, () -> x.stones(2, 6));
        check.noSuch("5: stones(-1, 0)", x, () -> x.stones(-1, 0));
    }

    private static void rotate() {
        Subakhall x = new Subakhall();
        x.society(1, 0, 0, 210);
        for (int i = 0; i < 3; i++) {
            x.field(0, 1, 60);
            x.gate(i, true);
        }
        check.due("6: rotate(0, true)", x.rotate(0, true), false);
        check.due("6: rotate(0, true) again", x.rotate(0, true), true);
        gets(x, 10, 0, "the first one first");
        gets(x, 10, 1, "then the next");
        gets(x, 0, 2, "a turn goes by with nothing, too");
        gets(x, 7, 0, "without a greater one the first");
        x.gate(1, false);
        gets(x, 9, 2, "behind a shut one");
        check.due("6: rotate(0, false)", x.rotate(0, false), true);
        x.day(10, 0, 0);
        check.due("6: split again", x.ofField(0, 12), 5);
        check.due("6: a turn not taken stands", x.ofSociety(0, 8), 0);
        x.gate(0, false);
        check.due("6: the next turn of the only one", x.ofSociety(0, 8), 2);
        Subakhall y = Check.oneField(60);
        y.rotate(0, true);
        y.gate(0, false);
        y.day(10, 0, 0);
        check.due("6: without a taker it runs OUT", y.water(6), 10);
        check.noSuch("6: rotate(1, true)", x, () -> x.rotate(1, true));
        check.noSuch("6: rotate(-1, true)", x, () -> x.rotate(-1, true));
    }

    private static void gets(Subakhall x, int flow, int field, String why) {
        check.due("6: who comes next: " + why, x.ofSociety(0, 8), field);
        x.day(flow, 0, 0);
        for (int i = 0; i < 3; i++) {
            check.due("6: field " + i + ": " + why, x.ofField(i, 12), i == field ? flow : 0);
        }
        check.due("6: nothing is LEFT", x.ofSociety(0, 3), 0);
    }
}
