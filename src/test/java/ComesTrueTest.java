import java.util.Arrays;

/**
 * Promises 26 to 28 against what comes: what would be is asked first, and then the DAYS pass on
 * hills that are made alike, with the FLOW, WARMTH and RAIN of the last one.
 */
public final class ComesTrueTest {
    private static final Check check = new Check("ComesTrueTest");
    private static final int WARMTH = 40;

    private interface Made {
        Subakhall make();
    }

    private interface Done {
        void on(Subakhall x);
    }

    public static void main(String[] args) {
        byTheLoss();
        byTheNotches();
        byTheStones();
        byWhatIsDoneSince();
        byTheTurn();
        byTheGate();
        byTheExcluded();
        byTheWindow();
        byTheCracks();
        byTheDucks();
        byTheRain();
        plansComeTrue();
        check.end();
    }

    /** Each FIELD is of KIND 2, GROWING, and 6 deep; its GATE is open, and it has DUCKS. DAY 5. */
    private static Subakhall thirsty(int[] losses, int[] notches, int... societyOfField) {
        Subakhall x = new Subakhall();
        for (int s = 0; s < losses.length; s++) {
            x.society(notches[s], losses[s], 0, 210);
        }
        for (int society : societyOfField) {
            x.field(society, 1, 20);
        }
        x.day(0, 0, 30);
        for (int f = 0; f < societyOfField.length; f++) {
            x.puddle(f);
            Check.helpAndPlant(x, f, 2);
            x.ducks(f, true);
            x.gate(f, true);
        }
        Hills.dry(x, 4);
        return x;
    }

    private static Subakhall thirsty(int fields) {
        return thirsty(new int[] {0}, new int[] {1}, new int[fields]);
    }

    private static void pass(Subakhall x, int days, int... weather) {
        for (int i = 0; i < days; i++) {
            x.day(weather[0], weather[1], weather[2]);
        }
    }

    private static int[] wouldYields(Subakhall x, int days) {
        int[] all = new int[x.many(1)];
        for (int f = 0; f < all.length; f++) {
            all[f] = x.wouldYield(f, days);
        }
        return all;
    }

    private static Subakhall behindADay(Made made, int... weather) {
        Subakhall x = made.make();
        pass(x, 1, weather);
        return x;
    }

    /** Asks on a hill whose last DAY had that weather; then as many DAYS like that pass as were asked for. */
    private static int[] comesTrue(String told, Made made, int days, int... weather) {
        Subakhall asked = made.make();
        Subakhall x = made.make();
        int ripeIn = -1;
        for (int i = 1; i <= days; i++) {
            int ripe = ripeOf(x);
            pass(x, 1, weather);
            ripeIn = ripeIn < 0 && ripeOf(x) > ripe ? i : ripeIn;
            for (int f = 0; f < x.many(1); f++) {
                check.due("26: " + told + ", FIELD " + f + " in " + i, asked.wouldYield(f, i), x.ofField(f, 10));
            }
        }
        check.due("27: " + told, asked.ripeIn(days), ripeIn);
        check.due("27: " + told + ", some FIELD gets RIPE", ripeIn > 0, true);
        return wouldYields(asked, days);
    }

    private static int ripeOf(Subakhall x) {
        int ripe = 0;
        for (int f = 0; f < x.many(1); f++) {
            ripe += x.ofField(f, 4) == 5 ? 1 : 0;
        }
        return ripe;
    }

    /** Of two hills that differ in one thing what would be is not the same, and comes true on both. */
    private static void differ(String told, Made one, Made other, int... weather) {
        int[] a = comesTrue(told, () -> behindADay(one, weather), 8, weather);
        int[] b = comesTrue(told + ", the other hill", () -> behindADay(other, weather), 8, weather);
        check.due("26: " + told + " matters", Arrays.equals(a, b), false);
    }

    private static void byTheLoss() {
        for (int flow = 2; flow <= 4; flow++) {
            differ("LOSS of 50 or 0, FLOW " + flow, () -> thirsty(new int[] {50}, new int[] {1}, 0),
                    () -> thirsty(1), flow, WARMTH, 0);
        }
        differ("LOSS of the second", () -> thirsty(new int[] {0, 40}, new int[] {1, 1}, 0, 1),
                () -> thirsty(new int[] {0, 0}, new int[] {1, 1}, 0, 1), 6, WARMTH, 0);
    }

    private static void byTheNotches() {
        differ("NOTCHES of 1 and 3, or 3 and 1", () -> thirsty(new int[] {0, 0}, new int[] {1, 3}, 0, 1),
                () -> thirsty(new int[] {0, 0}, new int[] {3, 1}, 0, 1), 4, WARMTH, 0);
    }

    private static void byTheStones() {
        for (int stones = 1; stones <= 5; stones++) {
            int its = stones;
            differ("STONES: " + its, () -> {
                Subakhall x = thirsty(2);
                x.stones(1, its);
                return x;
            }, () -> thirsty(2), 4, WARMTH, 0);
        }
    }

    /** What was done behind the last DAY counts from the next one on, and not what was got on the last. */
    private static void byWhatIsDoneSince() {
        int[] plain = sinceDone("nothing", x -> { });
        Done[] all = {x -> x.stones(1, 5), x -> x.stones(0, 4), x -> x.gate(0, false), x -> x.rotate(0, true),
            ComesTrueTest::exclude, x -> x.society(1, 0, 0, 210)};
        for (int i = 0; i < all.length; i++) {
            int[] would = sinceDone("what is done, " + i, all[i]);
            check.due("26: what is done matters: " + i, Arrays.equals(plain, would), false);
        }
    }

    private static void exclude(Subakhall x) {
        x.stones(1, 5);
        x.inspect(0);
    }

    private static int[] sinceDone(String told, Done what) {
        int[] weather = {5, WARMTH, 0};
        return comesTrue(told, () -> done(what, weather), 8, weather);
    }

    private static Subakhall done(Done what, int... weather) {
        Subakhall x = behindADay(() -> thirsty(2), weather);
        what.on(x);
        return x;
    }

    /** The SOCIETY ROTATES, and so many turns of 2 WATER are over. */
    private static Subakhall inTurns(int fields, int turns) {
        Subakhall x = thirsty(fields);
        x.rotate(0, true);
        pass(x, turns, 2, 0, 0);
        return x;
    }

    private static void byTheTurn() {
        for (int turns = 0; turns <= 3; turns++) {
            int its = turns;
            differ("the turn behind " + its, () -> inTurns(4, its), () -> {
                Subakhall x = inTurns(4, its);
                x.gate(its % 4, false);
                x.gate((its + 1) % 4, false);
                pass(x, 1, 0, 0, 0);
                Hills.open(x, 0, 1, 2, 3);
                return x;
            }, 9, WARMTH, 0);
        }
        differ("who ROTATES", () -> inTurns(2, 0), () -> thirsty(2), 4, WARMTH, 0);
    }

    private static void byTheGate() {
        differ("a GATE", () -> {
            Subakhall x = thirsty(2);
            x.gate(0, false);
            return x;
        }, () -> thirsty(2), 6, WARMTH, 0);
    }

    private static void byTheExcluded() {
        differ("who is EXCLUDED", () -> {
            Subakhall x = thirsty(2);
            x.stones(0, 5);
            x.inspect(0);
            return x;
        }, () -> {
            Subakhall x = thirsty(2);
            x.stones(0, 4);
            x.inspect(0);
            return x;
        }, 6, WARMTH, 0);
    }

    /** The SOCIETY 0 has the WINDOW of a MODEL by a VOTE, as its FIELD has more than 30 PESTS. */
    private static Subakhall voted(int from, int days) {
        Subakhall x = thirsty(1);
        x.ducks(0, false);
        for (int i = 0; i < 12; i++) {
            x.day(3, 0, 0);
        }
        x.ducks(0, true);
        x.society(9, 0, from, days);
        check.due("16: YES", x.vote(0), 1);
        return x;
    }

    private static void byTheWindow() {
        // It is the DAY 17; what would be begins on the DAY 19.
        differ("when a WINDOW shuts", () -> voted(0, 21), () -> voted(0, 23), 30, WARMTH, 0);
        differ("when a WINDOW opens", () -> voted(22, 9), () -> voted(19, 9), 30, WARMTH, 0);
    }

    /** PUDDLED, dry for so many DAYS, and planted behind another rain. */
    private static Subakhall cracked(int dry) {
        Subakhall x = Hills.puddled(1, 0, 0);
        Hills.dry(x, dry);
        x.day(0, 0, 30);
        for (int f = 0; f < 2; f++) {
            Check.helpAndPlant(x, f, 2);
            x.ducks(f, true);
        }
        x.gate(0, true);
        return x;
    }

    private static void byTheCracks() {
        for (int cracks = 1; cracks <= 3; cracks++) {
            // 18 deep it is dry for the first time on the ninth day.
            int dry = 8 + 3 * cracks;
            check.due("26: CRACKS", cracked(dry).ofField(0, 2), cracks);
            differ("CRACKS: " + cracks, () -> cracked(dry), () -> cracked(9), 0, WARMTH, 0);
        }
    }

    private static void byTheDucks() {
        differ("DUCKS", () -> {
            Subakhall x = Hills.growing(0, 1);
            Hills.breed(x, 0, 12);
            x.ducks(0, true);
            return x;
        }, () -> {
            Subakhall x = Hills.growing(0, 1);
            Hills.breed(x, 0, 12);
            return x;
        }, 0, 17, Hills.RAIN);
    }

    private static void byTheRain() {
        int[] few = {0, WARMTH, 1};
        int[] more = {0, WARMTH, 3};
        int poor = comesTrue("a RAIN of 1", () -> behindADay(() -> thirsty(1), few), 8, few)[0];
        int rich = comesTrue("a RAIN of 3", () -> behindADay(() -> thirsty(1), more), 8, more)[0];
        check.due("26: RAIN matters", poor < rich, true);
    }

    /** PUDDLED FIELDS with HELP, 3 in each SOCIETY, to be planted at any time; of the second one ROTATES. */
    private static Subakhall toBePlanted(int societies, int... weather) {
        Subakhall x = new Subakhall();
        int[][] told = {{3, 0, 0, 210}, {2, 20, 0, 16}, {4, 5, 8, 200}};
        for (int s = 0; s < societies; s++) {
            x.society(told[s][0], told[s][1], told[s][2], told[s][3]);
        }
        int[] bunds = {20, 34, 48, 40, 26, 30, 56, 22, 38};
        for (int f = 0; f < 3 * societies; f++) {
            x.field(f % societies, 1 + f % 4, bunds[f]);
        }
        pass(x, 2, 0, 0, 30);
        for (int f = 0; f < 3 * societies; f++) {
            x.puddle(f);
            for (int i = 0; i < 3; i++) {
                x.help(f, f);
            }
            x.gate(f, f % 5 != 3);
        }
        x.stones(0, 3);
        if (societies > 1) {
            x.rotate(1, true);
        }
        x.day(weather[0], weather[1], weather[2]);
        return x;
    }

    /** The YIELDS of all FIELDS together if they are planted like that; -1 if one had CRACKS then. */
    private static int yieldsOf(int plan, int kind, int days, int societies, int... weather) {
        Subakhall x = toBePlanted(societies, weather);
        int[] putOff = {plan % 3 * 5, plan / 3 % 3 * 5, plan / 9 * 5};
        for (int passed = 0; passed < days; passed++) {
            for (int f = 0; f < 3 * societies; f++) {
                if (putOff[f % societies] == passed) {
                    if (x.ofField(f, 2) > 0) {
                        return -1;
                    }
                    x.plant(f, kind);
                }
            }
            pass(x, 1, weather);
        }
        int all = 0;
        for (int f = 0; f < 3 * societies; f++) {
            all += x.ofField(f, 10);
        }
        return all;
    }

    private static int best(int kind, int days, int societies, int... weather) {
        int plans = societies == 1 ? 3 : societies == 2 ? 9 : 27;
        int best = -1;
        int most = -1;
        for (int plan = 0; plan < plans; plan++) {
            int all = yieldsOf(plan, kind, days, societies, weather);
            if (all < 0) {
                return -1;
            }
            if (all > most) {
                most = all;
                best = plan;
            }
        }
        return best;
    }

    private static void plansComeTrue() {
        boolean[] seen = new boolean[27];
        int compared = 0;
        for (int societies = 1; societies <= 3; societies++) {
            for (int days = 4; days <= 26; days++) {
                for (int flow = 0; flow <= 60; flow += 20) {
                    int best = planComesTrue(societies, days, flow);
                    if (best >= 0) {
                        seen[best] = true;
                        compared++;
                    }
                }
            }
        }
        int different = 0;
        for (boolean is : seen) {
            different += is ? 1 : 0;
        }
        check.due("28: plans were compared", compared >= 200, true);
        check.due("28: different plans were best", different >= 8, true);
    }

    private static int planComesTrue(int societies, int days, int flow) {
        int[] weather = {flow, 22 + days % 3 * 9, 1 + flow / 20 % 2};
        int kind = (days + flow / 20) % 3;
        int best = best(kind, days, societies, weather);
        if (best >= 0) {
            check.due("28: " + societies + " SOCIETIES, KIND " + kind + " in " + days + " by " + flow,
                    toBePlanted(societies, weather).plan(kind, days), best);
        }
        return best;
    }
}
