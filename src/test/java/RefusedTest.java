import java.util.ArrayList;
import java.util.List;
import java.util.Random;

/**
 * "A method that throws an exception changes nothing": two hills are made alike, calls are refused
 * on one of them, and then both live on by the same calls, which answer the same.
 */
public final class RefusedTest {
    private static final Check check = new Check("RefusedTest");
    private static final int LIVES = 6;
    private static final int CALLS = 140;

    private interface Made {
        Subakhall make();
    }

    private interface Call {
        double on(Subakhall x);
    }

    public static void main(String[] args) {
        lives("a new one", () -> new Subakhall());
        lives("without FIELDS", () -> Hills.of(3, 60));
        lives("with one FIELD", () -> Hills.of(1, 60, 0));
        lives("PUDDLED", () -> Hills.puddled(2, 0, 1, 0));
        for (int stage = 0; stage <= 5; stage++) {
            int told = stage;
            lives("in the STAGE " + told, () -> Hills.inStage(told));
        }
        lives("with CRACKS", () -> cracked());
        lives("the greatest", () -> full());
        lives("on a DARK DAY", () -> dark());
        lives("ROTATING, with what is LEFT", () -> rotating());
        lives("behind CUTS, HARVEST and VOTE", () -> harvested());
        check.end();
    }

    private static Subakhall cracked() {
        Subakhall x = Hills.of(1, 60, 0, 0, 0);
        x.gate(1, true);
        Hills.dry(x, 8);
        x.day(13, 9, 0);
        x.help(0, 1);
        return x;
    }

    private static Subakhall full() {
        Subakhall x = Hills.puddled(3, 0, 1, 2, 0, 1, 2, 0, 1, 2, 0, 1, 2);
        for (int f = 0; f < 12; f += 2) {
            Check.helpAndPlant(x, f, f % 3);
            x.stones(f, f % 6);
            x.gate(f, true);
        }
        x.day(77, 33, 3);
        return x;
    }

    private static Subakhall dark() {
        Subakhall x = Hills.puddled(1, 0, 0);
        x.help(0, 0);
        x.help(0, 0);
        x.help(0, 0);
        while (x.many(2) < 30) {
            Hills.rain(x, 3);
        }
        return x;
    }

    private static Subakhall rotating() {
        Subakhall x = Hills.of(2, 60, 0, 0, 0, 1, 1);
        Hills.open(x, 0, 1, 2, 3, 4);
        x.rotate(0, true);
        x.day(7, 5, 0);
        x.day(9, 6, 1);
        return x;
    }

    private static Subakhall harvested() {
        Subakhall x = Hills.of(2, 20, 0, 1, 0);
        x.day(0, 0, 30);
        for (int f = 0; f < 3; f++) {
            x.puddle(f);
            Check.helpAndPlant(x, f, 0);
        }
        Hills.ripen(x, 5);
        x.cut(0);
        x.cut(1);
        x.harvest(0, false);
        x.harvest(1, true);
        x.vote(0);
        return x;
    }

    /** Calls that any hill refuses. */
    private static List<Call> wrongCalls() {
        List<Call> calls = new ArrayList<>();
        int[] none = {-1, 12, Integer.MIN_VALUE, Integer.MAX_VALUE};
        for (int f : none) {
            calls.add(x -> x.gate(f, true) ? 1 : 0);
            calls.add(x -> x.stones(f, 1));
            calls.add(x -> x.puddle(f));
            calls.add(x -> x.plant(f, 0));
            calls.add(x -> x.help(f, 0));
            calls.add(x -> x.help(0, f));
            calls.add(x -> x.ducks(f, true));
            calls.add(x -> x.harvest(f, true));
            calls.add(x -> x.cut(f));
            calls.add(x -> x.sell(f, 1));
            calls.add(x -> x.wouldYield(f, 1));
            calls.add(x -> x.thought(f, true));
            calls.add(x -> x.field(f < 0 ? f : 3, 1, 5));
            calls.add(x -> x.rotate(f < 0 ? f : 3, true) ? 1 : 0);
            calls.add(x -> x.inspect(f < 0 ? f : 3));
            calls.add(x -> x.vote(f < 0 ? f : 3));
            calls.add(x -> x.suspect(f < 0 ? f : 3));
            calls.add(x -> x.meanDepth(f < 0 ? f : 3));
        }
        calls.add(x -> x.society(0, 0, 0, 1));
        calls.add(x -> x.society(1, 51, 0, 1));
        calls.add(x -> x.society(1, 0, 210, 1));
        calls.add(x -> x.society(1, 0, 0, 211));
        calls.add(x -> x.day(201, 40, 30));
        calls.add(x -> x.day(-1, 40, 30));
        calls.add(x -> x.day(200, 41, 30));
        calls.add(x -> x.day(200, -1, 30));
        calls.add(x -> x.day(200, 40, 31));
        calls.add(x -> x.day(200, 40, -1));
        calls.add(x -> x.ripeIn(0));
        calls.add(x -> x.ripeIn(41));
        calls.add(x -> x.plan(3, 30));
        calls.add(x -> x.plan(0, 31));
        calls.add(x -> x.water(7));
        calls.add(x -> x.many(12));
        for (int f = 0; f < 12; f++) {
            int its = f;
            calls.add(x -> x.stones(its, 6));
            calls.add(x -> x.stones(its, -1));
            calls.add(x -> x.plant(its, 3));
            calls.add(x -> x.sell(its, 0));
            calls.add(x -> x.sell(its, Integer.MAX_VALUE));
            calls.add(x -> x.help(its, 12));
            calls.add(x -> x.help(12, its));
            calls.add(x -> x.ofField(its, 14));
            calls.add(x -> x.ofOwner(its, 4));
            calls.add(x -> x.wouldYield(its, 41));
        }
        for (int s = 0; s < 3; s++) {
            int its = s;
            calls.add(x -> x.field(its, 0, 60));
            calls.add(x -> x.field(its, 9, 61));
            calls.add(x -> x.ofSociety(its, 9));
        }
        return calls;
    }

    /** Calls that a hill refuses by the state in which it is. */
    private static List<Call> callsByState(Subakhall x) {
        List<Call> calls = new ArrayList<>();
        if (x.many(0) == 3) {
            calls.add(y -> y.society(9, 50, 209, 210));
        }
        for (int f = 0; f < x.many(1); f++) {
            int its = f;
            int stage = x.ofField(f, 4);
            if (stage != 0 || x.ofField(f, 1) < 10) {
                calls.add(y -> y.puddle(its));
            }
            if (stage != 1 || x.many(4) == 1 || x.ofField(f, 11) < 3) {
                calls.add(y -> y.plant(its, 1));
            }
            if (stage != 5) {
                calls.add(y -> y.harvest(its, true));
                calls.add(y -> y.harvest(its, false));
                calls.add(y -> y.cut(its));
            }
            calls.add(y -> y.sell(its, y.ofOwner(its, 2) + 1));
        }
        if (x.many(1) == 12) {
            calls.add(y -> y.field(0, 9, 60));
        }
        return calls;
    }

    private static boolean isRefused(Subakhall x, Call call) {
        try {
            call.on(x);
            return false;
        } catch (IndexOutOfBoundsException | IllegalArgumentException | IllegalStateException e) {
            return e.getStackTrace()[0].getClassName().startsWith("Subakhall");
        }
    }

    private static void lives(String told, Made made) {
        List<Call> wrong = new ArrayList<>(wrongCalls());
        wrong.addAll(callsByState(made.make()));
        for (int seed = 0; seed < LIVES; seed++) {
            Subakhall x = made.make();
            Subakhall y = made.make();
            for (int i = 0; i < wrong.size(); i++) {
                check.due(told + ": call " + i + " is refused", isRefused(x, wrong.get(i)), true);
            }
            liveOn(told + ", life " + seed, x, y, new Random(seed));
        }
    }

    private static void liveOn(String told, Subakhall x, Subakhall y, Random random) {
        check.due(told + ": as if nothing had been", x.digest(), y.digest());
        for (int i = 0; i < CALLS; i++) {
            Call call = anyCall(random);
            check.due(told + ": call " + i, answer(x, call), answer(y, call));
        }
        check.due(told + ": at its end", x.digest(), y.digest());
    }

    private static double answer(Subakhall x, Call call) {
        try {
            return call.on(x);
        } catch (IndexOutOfBoundsException e) {
            return 0.25;
        } catch (IllegalArgumentException e) {
            return 0.5;
        } catch (IllegalStateException e) {
            return 0.75;
        }
    }

    private static Call anyCall(Random random) {
        int f = random.nextInt(5);
        int g = random.nextInt(5);
        int s = random.nextInt(2);
        int n = random.nextInt(40);
        boolean is = random.nextBoolean();
        switch (random.nextInt(20)) {
            case 0: return x -> x.gate(f, true) ? 1 : 0;
            case 1: return x -> x.stones(f, n % 6);
            case 2: return x -> x.rotate(s, is) ? 1 : 0;
            case 3: return x -> x.puddle(f);
            case 4: return x -> x.plant(f, n % 3);
            case 5: return x -> x.ducks(f, is);
            case 6: return x -> x.harvest(f, is);
            case 7: return x -> x.cut(f);
            case 8: return x -> x.inspect(s);
            case 9: return x -> x.sell(f, 1 + n);
            case 10: return x -> x.vote(s);
            case 11: return x -> x.meanDepth(s);
            case 12: return x -> x.plan(n % 3, 1 + n % 30);
            case 13: return x -> x.wouldYield(f, 1 + n);
            case 14: return n % 4 > 0 ? x -> x.ripeIn(1 + n) : x -> x.society(1 + s, n, n, 210 - n);
            case 15: return n % 4 > 0 ? x -> x.digest() : x -> x.field(s, 1 + n % 9, 20 + n);
            case 16: return x -> x.help(f, g);
            case 17: return x -> x.help(f, f);
            default: return x -> x.day(n, 2 * n % 41, n % 7);
        }
    }
}
