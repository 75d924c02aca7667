import java.util.LinkedHashMap;
import java.util.Map;

/**
 * What a call changes, and that it changes nothing else: of two hills that are made alike one has
 * the call and the other one has not, and their answers differ in what the document says alone.
 */
public final class NothingElseTest {
    private static final Check check = new Check("NothingElseTest");

    private interface Call {
        void on(Subakhall x);
    }

    public static void main(String[] args) {
        theHillIsMotley();
        society();
        field();
        gate();
        stones();
        rotate();
        puddle();
        plant();
        help();
        ducks();
        harvest();
        cut();
        day();
        inspect();
        sell();
        vote();
        questions();
        check.end();
    }

    /** As the document has it; else a change on both hills would not show. */
    private static void theHillIsMotley() {
        Subakhall x = Motley.hill(3);
        Map<String, Double> got = answers(x);
        row("many", got, 3, 8, 18, 18, 0, 35, 110, 61, 0, 4, 74, 11);
        row("water", got, 819, 83, 1, 1, 136, 168, 430);
        int[][] societies = {{0, 210, 15, 1, 1, 0, 3, 4, 3}, {205, 100, 24, 0, 1, 50, 3, 3, 1},
            {5, 60, 22, 0, 1, 24, 2, 6, 5}};
        for (int s = 0; s < societies.length; s++) {
            row("ofSociety(" + s, got, societies[s]);
        }
        int[][] fields = {{0, 5, 0, 0, 5, 0, 150, 100, 3, 17, 26, 4, 1, 1},
            {1, 13, 0, 0, 1, -1, 0, 0, 3, 27, 0, 5, 3, 1},
            {2, 18, 0, 0, 0, -1, 0, 0, 3, 27, 0, 4, 6, 1},
            {0, 25, 0, 0, 2, 2, 30, 82, 0, 11, 0, 5, 3, 1},
            {1, 18, 0, 0, 5, 0, 150, 91, 8, 24, 26, 4, 0, 0},
            {2, 0, 2, 7, 0, -1, 0, 0, 0, 20, 0, 5, 0, 1},
            {0, 4, 0, 0, 2, 1, 30, 96, 18, 11, 0, 4, 0, 0},
            {1, 0, 2, 7, 0, -1, 0, 0, 0, 20, 0, 5, 0, 0}};
        int[][] owners = {{15, -2, 0, 0}, {17, -4, 22, 0}, {3, -2, 19, 0}, {10, -4, 0, 0}, {5, -5, 22, 0},
            {20, 13, 0, 0}, {20, -2, 0, 0}, {20, 6, 0, 0}};
        for (int f = 0; f < Motley.FIELDS; f++) {
            row("ofField(" + f, got, fields[f]);
            row("ofOwner(" + f, got, owners[f]);
        }
        row("least thought", got, 25, 24, 0, 0, 26, 0, 0, 0);
        row("most thought", got, 31, 29, 120, 120, 29, 120, 120, 120);
        row("STONES", got, 1, 1, 4, 2, 3, 0, 0, 0);
        row("ROTATES", got, 0, 1, 0);
        row("suspect", got, 0, -1, -1);
        row("PESTS a DAY later", got, 3, 0, 0, 4, 4, 0, 19, 0);
        check.due("as it is made: meanDepth(0)", got.get("meanDepth(0)"), 34.0 / 3.0);
        check.due("as it is made: meanDepth(1)", got.get("meanDepth(1)"), 31.0 / 3.0);
        check.due("as it is made: meanDepth(2)", got.get("meanDepth(2)"), 9.0);
    }

    private static void row(String told, Map<String, Double> got, int... want) {
        for (int i = 0; i < want.length; i++) {
            String asked = told + (told.indexOf('(') < 0 ? "(" : ", ") + i + ")";
            check.due("as it is made: " + asked, got.get(asked), want[i]);
        }
    }

    /** Each due change is told as "what is asked=the answer then". */
    private static void changes(String call, Call made, String... due) {
        Map<String, Double> want = answers(Motley.hill(3));
        for (String one : due) {
            int end = one.indexOf('=');
            String asked = one.substring(0, end);
            double then = Double.parseDouble(one.substring(end + 1));
            check.due(call + ": a change of " + asked, want.put(asked, then) != then, true);
        }
        Subakhall x = Motley.hill(3);
        made.on(x);
        Map<String, Double> got = answers(x);
        for (String asked : want.keySet()) {
            check.due("nothing else by " + call + ": " + asked, got.get(asked), want.get(asked));
        }
        Subakhall y = Motley.hill(3);
        made.on(y);
        leavesTheLastDay(call, y);
    }

    /** What would be by the last DAY is what comes by DAYS with just its FLOW, WARMTH and RAIN. */
    private static void leavesTheLastDay(String call, Subakhall x) {
        int days = 9;
        int[] would = new int[x.many(1)];
        int ripe = 0;
        for (int f = 0; f < would.length; f++) {
            would[f] = x.wouldYield(f, days);
            ripe += x.ofField(f, 10) == 0 && would[f] > 0 ? 1 : 0;
        }
        check.due("ahead of " + call + " some FIELD would get RIPE", ripe > 0, true);
        for (int i = 0; i < days; i++) {
            x.day(Motley.FLOW, Motley.WARMTH, Motley.RAIN);
        }
        for (int f = 0; f < would.length; f++) {
            check.due("the last DAY stays by " + call + ": FIELD " + f, x.ofField(f, 10), would[f]);
        }
    }

    private static void society() {
        Map<String, Double> want = answers(Motley.hill(2));
        want.put("many(0)", 3.0);
        Subakhall x = Motley.hill(2);
        x.society(9, 50, 209, 210);
        Map<String, Double> got = answers(x);
        for (String asked : want.keySet()) {
            check.due("nothing else by society(): " + asked, got.get(asked), want.get(asked));
        }
        Subakhall y = Motley.hill(2);
        y.society(1, 0, 0, 210);
        leavesTheLastDay("society()", y);
    }

    private static void field() {
        changes("field(0, 1, 5)", x -> x.field(0, 1, 5), "many(1)=9", "many(6)=130", "ofSociety(0, 6)=4",
                "meanDepth(0)=8.5");
        changes("field(1, 5, 30)", x -> x.field(1, 5, 30), "many(1)=9", "many(6)=130", "ofSociety(1, 6)=4",
                "meanDepth(1)=7.75");
        changes("field(2, 9, 60)", x -> x.field(2, 9, 60), "many(1)=9", "many(6)=130", "ofSociety(2, 6)=3",
                "meanDepth(2)=6");
    }

    private static void gate() {
        changes("gate(3, false)", x -> x.gate(3, false), "ofField(3, 13)=0", "ofSociety(0, 8)=0");
        changes("gate(4, true)", x -> x.gate(4, true), "ofField(4, 13)=1", "ofSociety(1, 8)=4");
        changes("gate(6, true)", x -> x.gate(6, true), "ofField(6, 13)=1");
        changes("gate(7, true)", x -> x.gate(7, true), "ofField(7, 13)=1", "ofSociety(1, 8)=7");
        changes("gate(0, true), as it was", x -> x.gate(0, true));
        changes("gate(6, false), as it was", x -> x.gate(6, false));
    }

    private static void stones() {
        changes("stones(0, 0)", x -> x.stones(0, 0), "STONES(0)=0", "many(11)=10");
        changes("stones(3, 5)", x -> x.stones(3, 5), "STONES(3)=5", "many(11)=14");
        changes("stones(4, 2)", x -> x.stones(4, 2), "STONES(4)=2", "many(11)=10");
        changes("stones(5, 1)", x -> x.stones(5, 1), "STONES(5)=1", "many(11)=12");
        changes("stones(2, 4), as it was", x -> x.stones(2, 4));
    }

    private static void rotate() {
        changes("rotate(0, true)", x -> x.rotate(0, true), "ROTATES(0)=1");
        changes("rotate(1, false)", x -> x.rotate(1, false), "ROTATES(1)=0");
        changes("rotate(1, true), as it was", x -> x.rotate(1, true));
        changes("rotate(2, false), as it was", x -> x.rotate(2, false));
    }

    private static void puddle() {
        changes("puddle(2)", x -> x.puddle(2), "ofField(2, 4)=1");
    }

    private static void plant() {
        changes("plant(1, 2)", x -> x.plant(1, 2), "ofField(1, 4)=2", "ofField(1, 5)=2", "ofField(1, 7)=100",
                "ofField(1, 11)=0", "least thought(1)=0", "most thought(1)=120");
    }

    private static void help() {
        changes("help(4, 6)", x -> x.help(4, 6), "ofField(6, 11)=5", "ofOwner(4, 1)=-4", "ofOwner(6, 1)=-3");
        changes("help(6, 4)", x -> x.help(6, 4), "ofField(4, 11)=5", "ofOwner(4, 1)=-6", "ofOwner(6, 1)=-1");
        changes("help(2, 2)", x -> x.help(2, 2), "ofField(2, 11)=5");
    }

    private static void ducks() {
        changes("ducks(0, true)", x -> x.ducks(0, true), "PESTS a DAY later(0)=0");
        changes("ducks(4, false)", x -> x.ducks(4, false), "PESTS a DAY later(4)=8");
        // The FIELD 6 breeds 18 to 23, of which 4 fly to 3; with DUCKS 19 are left, and none flies.
        changes("ducks(3, false)", x -> x.ducks(3, false), "PESTS a DAY later(3)=5");
        changes("ducks(6, true)", x -> x.ducks(6, true), "PESTS a DAY later(3)=0");
        changes("ducks(3, true), as it was", x -> x.ducks(3, true));
        changes("ducks(5, true), without PESTS", x -> x.ducks(5, true));
    }

    private static void harvest() {
        String[] of0 = {"ofField(0, 4)=0", "ofField(0, 5)=-1", "ofField(0, 6)=0", "ofField(0, 7)=0",
            "ofField(0, 10)=0", "ofOwner(0, 2)=24", "ofSociety(0, 2)=17", "ofSociety(0, 5)=26",
            "many(7)=63", "many(10)=100"};
        changes("harvest(0, false)", x -> x.harvest(0, false),
                and(of0, "ofField(0, 9)=27", "PESTS a DAY later(0)=1"));
        changes("harvest(0, true)", x -> x.harvest(0, true),
                and(of0, "ofField(0, 8)=1", "many(5)=33", "PESTS a DAY later(0)=0"));
        String[] of4 = {"ofField(4, 4)=0", "ofField(4, 5)=-1", "ofField(4, 6)=0", "ofField(4, 7)=0",
            "ofField(4, 10)=0", "ofOwner(4, 2)=46", "ofSociety(1, 2)=26", "ofSociety(1, 5)=76",
            "many(7)=63", "many(10)=100", "PESTS a DAY later(4)=0"};
        changes("harvest(4, false)", x -> x.harvest(4, false), and(of4, "ofField(4, 9)=34"));
        changes("harvest(4, true)", x -> x.harvest(4, true), and(of4, "ofField(4, 8)=4", "many(5)=31"));
    }

    private static String[] and(String[] some, String... more) {
        String[] all = java.util.Arrays.copyOf(some, some.length + more.length);
        System.arraycopy(more, 0, all, some.length, more.length);
        return all;
    }

    private static void cut() {
        // 7 times 18 and 5 times 4 modulo 21 are 20: 26 times 110, divided by 100.
        changes("cut(0)", x -> x.cut(0), "many(9)=5", "least thought(0)=26");
        // With 13 times 4 it is 9: 26 times 99, divided by 100.
        changes("cut(4)", x -> x.cut(4), "many(9)=5", "most thought(4)=28");
    }

    private static void day() {
        Map<String, Double> want = answers(Motley.hill(3));
        Subakhall x = Motley.hill(3);
        x.day(33, 7, 4);
        Map<String, Double> got = answers(x);
        int[] stay = {0, 11, 13};
        for (int f = 0; f < 8; f++) {
            for (int what : stay) {
                stays("ofField(" + f + ", " + what + ")", want, got);
            }
        }
        for (String asked : want.keySet()) {
            if (asked.startsWith("ofOwner") || asked.contains("thought") || asked.startsWith("STONES")
                    || asked.startsWith("ROTATES")) {
                stays(asked, want, got);
            }
        }
        for (int what : new int[] {0, 1, 6, 7, 8, 9, 10, 11}) {
            stays("many(" + what + ")", want, got);
        }
        for (int s = 0; s < 3; s++) {
            for (int what : new int[] {0, 1, 2, 5, 6}) {
                stays("ofSociety(" + s + ", " + what + ")", want, got);
            }
        }
        for (int f : new int[] {0, 1, 2, 4, 5, 7}) {
            for (int what : new int[] {4, 5, 6, 7, 9, 10}) {
                stays("ofField(" + f + ", " + what + ")", want, got);
            }
        }
    }

    private static void stays(String asked, Map<String, Double> want, Map<String, Double> got) {
        check.due("a DAY leaves " + asked, got.get(asked), want.get(asked));
    }

    private static void inspect() {
        changes("inspect(0)", x -> x.inspect(0), "STONES(0)=0", "STONES(3)=0", "ofOwner(0, 0)=10",
                "ofOwner(3, 0)=0", "ofSociety(0, 2)=30", "many(6)=95", "many(7)=76", "many(11)=8");
        changes("inspect(1)", x -> x.inspect(1), "STONES(1)=0", "STONES(4)=0", "ofOwner(1, 0)=12",
                "ofOwner(4, 0)=-10", "ofOwner(4, 3)=1", "ofSociety(1, 2)=44", "many(6)=90", "many(7)=81",
                "many(8)=1", "many(11)=7");
        changes("inspect(2)", x -> x.inspect(2), "STONES(2)=0", "ofOwner(2, 0)=-17", "ofOwner(2, 3)=1",
                "ofSociety(2, 2)=42", "many(6)=90", "many(7)=81", "many(8)=1", "many(11)=7");
    }

    private static void sell() {
        changes("sell(1, 22)", x -> x.sell(1, 22), "ofOwner(1, 0)=39", "ofOwner(1, 2)=0", "many(6)=132");
        changes("sell(2, 5)", x -> x.sell(2, 5), "ofOwner(2, 0)=8", "ofOwner(2, 2)=14", "many(6)=115");
        changes("sell(4, 20)", x -> x.sell(4, 20), "ofOwner(4, 0)=25", "ofOwner(4, 2)=2", "many(6)=130");
        Subakhall x = Check.ripe();
        x.harvest(0, false);
        x.sell(0, 1);
        x.day(0, 0, 0);
        check.due("nothing else by sell(0, 1): half of 3 PESTS, without DUCKS", x.ofField(0, 8), 1);
    }

    private static void vote() {
        // CROP for each FIELD: 0, 16, 12.
        changes("vote(0)", x -> x.vote(0), "ofSociety(0, 0)=205", "ofSociety(0, 1)=100");
        changes("vote(1)", x -> x.vote(1), "ofSociety(1, 5)=0");
        changes("vote(2)", x -> x.vote(2), "ofSociety(2, 0)=205", "ofSociety(2, 1)=100", "ofSociety(2, 5)=0");
    }

    private static void questions() {
        for (int f = 0; f < Motley.FIELDS; f++) {
            int its = f;
            changes("wouldYield(" + its + ", 40)", x -> x.wouldYield(its, 40));
        }
        changes("ripeIn(40)", x -> x.ripeIn(40));
        changes("plan(2, 30)", x -> x.plan(2, 30));
        changes("digest()", x -> x.digest());
        changes("all that is asked", x -> asksAll(x));
    }

    private static void asksAll(Subakhall x) {
        for (int what = 0; what <= 6; what++) {
            x.water(what);
            x.many(what);
            x.ofSociety(0, what);
            x.ofField(3, what);
            x.ofField(0, 7 + what);
        }
        for (int what = 7; what <= 11; what++) {
            x.many(what);
        }
        for (int s = 0; s < 3; s++) {
            x.ofSociety(s, 7);
            x.ofSociety(s, 8);
            x.suspect(s);
            x.meanDepth(s);
        }
        for (int what = 0; what <= 3; what++) {
            x.ofOwner(2, what);
        }
        x.isClosed();
        x.thought(0, false);
        x.thought(4, true);
    }

    /** All that is asked; then the STONES, who ROTATES, and the PESTS of a DAY later, by DUCKS or not. */
    private static Map<String, Double> answers(Subakhall x) {
        Map<String, Double> all = new LinkedHashMap<>();
        for (int what = 0; what <= 11; what++) {
            all.put("many(" + what + ")", 0.0 + x.many(what));
        }
        for (int what = 0; what <= 6; what++) {
            all.put("water(" + what + ")", 0.0 + x.water(what));
        }
        all.put("isClosed()", x.isClosed() ? 1.0 : 0.0);
        for (int s = 0; s < x.many(0); s++) {
            ofSociety(x, s, all);
        }
        for (int f = 0; f < x.many(1); f++) {
            ofField(x, f, all);
        }
        x.day(0, 0, 5);
        for (int f = 0; f < x.many(1); f++) {
            all.put("PESTS a DAY later(" + f + ")", 0.0 + x.ofField(f, 8));
        }
        return all;
    }

    private static void ofSociety(Subakhall x, int s, Map<String, Double> all) {
        for (int what = 0; what <= 8; what++) {
            all.put("ofSociety(" + s + ", " + what + ")", 0.0 + x.ofSociety(s, what));
        }
        all.put("suspect(" + s + ")", 0.0 + x.suspect(s));
        all.put("meanDepth(" + s + ")", x.meanDepth(s));
        all.put("ROTATES(" + s + ")", x.rotate(s, false) ? 1.0 : 0.0);
    }

    private static void ofField(Subakhall x, int f, Map<String, Double> all) {
        for (int what = 0; what <= 13; what++) {
            all.put("ofField(" + f + ", " + what + ")", 0.0 + x.ofField(f, what));
        }
        for (int what = 0; what <= 3; what++) {
            all.put("ofOwner(" + f + ", " + what + ")", 0.0 + x.ofOwner(f, what));
        }
        all.put("least thought(" + f + ")", 0.0 + x.thought(f, false));
        all.put("most thought(" + f + ")", 0.0 + x.thought(f, true));
        all.put("STONES(" + f + ")", 0.0 + x.stones(f, 0));
    }
}
