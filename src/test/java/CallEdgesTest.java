import java.util.LinkedHashMap;
import java.util.Map;

/** Promises 2 to 28: the limits of each parameter, and which exception comes first. */
public final class CallEdgesTest {
    private static final Check check = new Check("CallEdgesTest");

    private interface Numbered {
        void call(Subakhall x, int number);
    }

    private static final Map<String, Numbered> OF_SOCIETY = new LinkedHashMap<>();
    private static final Map<String, Numbered> OF_FIELD = new LinkedHashMap<>();

    static {
        OF_SOCIETY.put("3: field", (x, s) -> x.field(s, 1, 5));
        OF_SOCIETY.put("3: field, with wrong numbers", (x, s) -> x.field(s, 0, 61));
        OF_SOCIETY.put("6: rotate", (x, s) -> x.rotate(s, true));
        OF_SOCIETY.put("14: inspect", (x, s) -> x.inspect(s));
        OF_SOCIETY.put("16: vote", (x, s) -> x.vote(s));
        OF_SOCIETY.put("19: ofSociety", (x, s) -> x.ofSociety(s, 8));
        OF_SOCIETY.put("19: ofSociety, with a wrong what", (x, s) -> x.ofSociety(s, 9));
        OF_SOCIETY.put("24: meanDepth", (x, s) -> x.meanDepth(s));
        OF_SOCIETY.put("25: suspect", (x, s) -> x.suspect(s));
        OF_FIELD.put("4: gate", (x, f) -> x.gate(f, true));
        OF_FIELD.put("5: stones", (x, f) -> x.stones(f, 5));
        OF_FIELD.put("5: stones, with 6", (x, f) -> x.stones(f, 6));
        OF_FIELD.put("7: puddle", (x, f) -> x.puddle(f));
        OF_FIELD.put("8: plant", (x, f) -> x.plant(f, 0));
        OF_FIELD.put("8: plant, with KIND 3", (x, f) -> x.plant(f, 3));
        OF_FIELD.put("9: help, who works", (x, f) -> x.help(f, 0));
        OF_FIELD.put("9: help, where", (x, f) -> x.help(0, f));
        OF_FIELD.put("9: help, both", (x, f) -> x.help(f, f));
        OF_FIELD.put("10: ducks", (x, f) -> x.ducks(f, true));
        OF_FIELD.put("11: harvest", (x, f) -> x.harvest(f, true));
        OF_FIELD.put("12: cut", (x, f) -> x.cut(f));
        OF_FIELD.put("15: sell", (x, f) -> x.sell(f, 1));
        OF_FIELD.put("15: sell, with 0", (x, f) -> x.sell(f, 0));
        OF_FIELD.put("17: ofField", (x, f) -> x.ofField(f, 13));
        OF_FIELD.put("17: ofField, with a wrong what", (x, f) -> x.ofField(f, 14));
        OF_FIELD.put("18: ofOwner", (x, f) -> x.ofOwner(f, 3));
        OF_FIELD.put("18: ofOwner, with a wrong what", (x, f) -> x.ofOwner(f, 4));
        OF_FIELD.put("22: thought", (x, f) -> x.thought(f, true));
        OF_FIELD.put("26: wouldYield", (x, f) -> x.wouldYield(f, 40));
        OF_FIELD.put("26: wouldYield, of 41", (x, f) -> x.wouldYield(f, 41));
    }

    public static void main(String[] args) {
        noSuchSociety();
        noSuchField();
        theLastSociety();
        theLastField();
        whatItAsks();
        daysItAsks();
        societyInOrder();
        fieldInOrder();
        plantInOrder();
        sellInOrder();
        atOnce512();
        check.end();
    }

    private static void noSuchSociety() {
        for (int societies = 0; societies <= 3; societies++) {
            Subakhall x = Hills.of(societies, 60);
            for (int wrong : new int[] {societies, -1, societies + 1, 3, Integer.MIN_VALUE,
                Integer.MAX_VALUE}) {
                for (Map.Entry<String, Numbered> e : OF_SOCIETY.entrySet()) {
                    check.noSuch(e.getKey() + " of SOCIETY " + wrong + " of " + societies, x,
                            () -> e.getValue().call(x, wrong));
                }
            }
        }
    }

    private static void noSuchField() {
        for (int fields = 0; fields <= 12; fields++) {
            for (Map.Entry<String, Numbered> e : OF_FIELD.entrySet()) {
                Subakhall x = Hills.of(1, 60, new int[fields]);
                for (int wrong : new int[] {fields, -1, fields + 1, 12, Integer.MIN_VALUE,
                    Integer.MAX_VALUE}) {
                    check.noSuch(e.getKey() + " of FIELD " + wrong + " of " + fields, x,
                            () -> e.getValue().call(x, wrong));
                }
            }
        }
    }

    private static void theLastSociety() {
        for (int societies = 1; societies <= 3; societies++) {
            int last = societies - 1;
            Subakhall x = Hills.of(societies, 60);
            check.due("6: rotate", x.rotate(last, true), false);
            check.due("14: inspect", x.inspect(last), 0);
            check.due("16: vote", x.vote(last), 0);
            check.due("19: ofSociety", x.ofSociety(last, 1), 210);
            check.due("24: meanDepth", x.meanDepth(last), 0.0);
            check.due("25: suspect", x.suspect(last), -1);
            check.due("3: field", x.field(last, 1, 5), 0);
            check.due("17: its SOCIETY", x.ofField(0, 0), last);
        }
    }

    private static void theLastField() {
        for (int fields = 1; fields <= 12; fields++) {
            int last = fields - 1;
            Subakhall x = Hills.of(1, 60, new int[fields]);
            check.due("4: gate", x.gate(last, true), false);
            check.due("5: stones", x.stones(last, 5), 0);
            check.due("9: help", x.help(0, last) + x.help(last, 0), fields == 1 ? 3 : 2);
            check.due("10: ducks", x.ducks(last, true), 0);
            check.due("17: ofField", x.ofField(last, 13), 1);
            check.due("18: ofOwner", x.ofOwner(last, 0), 20);
            check.due("22: thought", x.thought(last, true), 120);
            check.due("26: wouldYield", x.wouldYield(last, 1), 0);
            check.badState("7: puddle", x, () -> x.puddle(last));
            check.badState("8: plant", x, () -> x.plant(last, 0));
            check.badState("11: harvest", x, () -> x.harvest(last, false));
            check.badState("12: cut", x, () -> x.cut(last));
            check.badState("15: sell", x, () -> x.sell(last, 1));
        }
    }

    private interface What {
        long ask(int what);
    }

    private static void whatItAsks() {
        Subakhall x = Hills.of(1, 60, 0);
        x.day(9, 9, 9);
        what("17: ofField", x, 13, what -> x.ofField(0, what));
        what("18: ofOwner", x, 3, what -> x.ofOwner(0, what));
        what("19: ofSociety", x, 8, what -> x.ofSociety(0, what));
        what("20: water", x, 6, what -> x.water(what));
        what("23: many", x, 11, what -> x.many(what));
    }

    private static void what(String told, Subakhall x, int last, What asked) {
        for (int what = 0; what <= last; what++) {
            long answer = asked.ask(what);
            check.due(told + "(" + what + ") again", asked.ask(what), answer);
        }
        for (int wrong : new int[] {-1, last + 1, -2, Integer.MIN_VALUE, Integer.MAX_VALUE}) {
            check.badArgument(told + "(" + wrong + ")", x, () -> asked.ask(wrong));
        }
    }

    private static void daysItAsks() {
        Subakhall x = Hills.of(1, 60, 0);
        x.day(9, 9, 9);
        check.due("26: 1 and 40 DAYS", x.wouldYield(0, 1) + x.wouldYield(0, 40), 0);
        check.due("27: 1 and 40 DAYS", x.ripeIn(1) + x.ripeIn(40), -2);
        check.due("28: 1 and 30 DAYS", x.plan(0, 1) + x.plan(2, 1), 0);
        for (int wrong : new int[] {0, -1, Integer.MIN_VALUE, 41, Integer.MAX_VALUE}) {
            check.badArgument("26: \"if days is not 1 to 40\": " + wrong, x, () -> x.wouldYield(0, wrong));
            check.badArgument("27: \"if days is not 1 to 40\": " + wrong, x, () -> x.ripeIn(wrong));
        }
        for (int wrong : new int[] {0, -1, Integer.MIN_VALUE, 31, 40, Integer.MAX_VALUE}) {
            check.badArgument("28: \"or days not 1 to 30\": " + wrong, x, () -> x.plan(0, wrong));
        }
        for (int wrong : new int[] {-1, 3, Integer.MIN_VALUE, Integer.MAX_VALUE}) {
            check.badArgument("28: \"if kind is not 0 to 2\": " + wrong, x, () -> x.plan(wrong, 1));
            check.badArgument("28: of 30 DAYS: " + wrong, x, () -> x.plan(wrong, 30));
        }
        Subakhall none = new Subakhall();
        check.due("27: without FIELDS", none.ripeIn(40), -1);
        check.badArgument("27: without FIELDS, 41", none, () -> none.ripeIn(41));
        check.due("28: without SOCIETIES", none.plan(2, 30), 0);
        check.badArgument("28: without SOCIETIES, 31", none, () -> none.plan(2, 31));
        check.badArgument("28: without SOCIETIES, KIND 3", none, () -> none.plan(3, 30));
    }

    private static void societyInOrder() {
        Subakhall x = Hills.of(3, 60);
        int[][] wrong = {{0, 0, 0, 1}, {10, 0, 0, 1}, {1, -1, 0, 1}, {1, 51, 0, 1}, {1, 0, -1, 1},
            {1, 0, 210, 1}, {1, 0, 0, 0}, {1, 0, 0, 211}};
        for (int[] w : wrong) {
            check.badArgument("2: wrong, and there are 3", x, () -> x.society(w[0], w[1], w[2], w[3]));
        }
        check.badState("2: right, and there are 3", x, () -> x.society(1, 0, 0, 1));
    }

    private static void fieldInOrder() {
        Subakhall x = Hills.of(1, 60, new int[12]);
        check.noSuch("3: no such SOCIETY, wrong, and there are 12", x, () -> x.field(1, 0, 4));
        check.noSuch("3: no such SOCIETY, and there are 12", x, () -> x.field(1, 1, 5));
        int[][] wrong = {{0, 5}, {10, 5}, {1, 4}, {1, 61}, {0, 61}};
        for (int[] w : wrong) {
            check.badArgument("3: wrong, and there are 12", x, () -> x.field(0, w[0], w[1]));
        }
        check.badState("3: right, and there are 12", x, () -> x.field(0, 1, 5));
        Subakhall y = Hills.of(1, 60);
        check.noSuch("3: no such SOCIETY, and wrong", y, () -> y.field(-1, 10, 61));
        check.badArgument("3: wrong", y, () -> y.field(0, 10, 61));
    }

    private static void plantInOrder() {
        Subakhall fallow = Hills.of(1, 60, 0);
        check.badArgument("8: KIND 3, and all that stands against it", fallow, () -> fallow.plant(0, 3));
        check.badState("8: FALLOW, DARK, without HELP", fallow, () -> fallow.plant(0, 0));
        check.noSuch("8: no such FIELD, and KIND 3", fallow, () -> fallow.plant(1, 3));
        Subakhall dark = Hills.puddled(1, 0);
        while (dark.many(2) < 30) {
            Hills.rain(dark, 0);
        }
        for (int i = 0; i < 3; i++) {
            dark.help(0, 0);
        }
        check.badArgument("8: KIND -1 on a DARK DAY", dark, () -> dark.plant(0, -1));
        check.badState("8: a DARK DAY", dark, () -> dark.plant(0, 0));
        Subakhall helpless = Hills.puddled(1, 0);
        check.badArgument("8: KIND 3 without HELP", helpless, () -> helpless.plant(0, 3));
        check.badState("8: without HELP", helpless, () -> helpless.plant(0, 2));
    }

    private static void sellInOrder() {
        Subakhall x = Hills.of(1, 60, 0);
        check.badArgument("15: 0, and there is none", x, () -> x.sell(0, 0));
        check.badState("15: 1, and there is none", x, () -> x.sell(0, 1));
        check.noSuch("15: no such FIELD, and 0", x, () -> x.sell(1, 0));
        check.noSuch("15: no such FIELD, and 1", x, () -> x.sell(1, 1));
    }

    /** The most that is promised: 512 calls, on the greatest hill, of which many are dear ones. */
    private static void atOnce512() {
        Subakhall x = Hills.of(3, 20, 0, 1, 2, 0, 1, 2, 0, 1, 2, 0, 1, 2);
        int calls = 3 + 12;
        for (int f = 0; f < 12; f++) {
            x.gate(f, true);
            calls++;
        }
        long last = 0;
        while (calls < 511) {
            if (calls % 2 == 0) {
                x.day(200, 40, 30);
            } else {
                last = x.digest();
            }
            calls++;
        }
        check.due("the 512th call", x.digest() == 0 || last == 0, false);
    }
}
