import java.util.Random;

/** Runs of 512 calls, the same ones each time, on the class and on the Model side by side. */
public final class ModelTest {
    private static final int RUNS = 300;
    private static final int CALLS = 512;

    private static final Check check = new Check("ModelTest");
    private static final int[] seen = new int[4];

    private final Random random;
    private final Subakhall x = new Subakhall();
    private final Model m = new Model();
    private final int weather;
    private int calls = 0;

    private ModelTest(int seed) {
        random = new Random(seed);
        weather = seed % 4;
    }

    public static void main(String[] args) {
        for (int run = 0; run < RUNS; run++) {
            new ModelTest(run).run(run);
        }
        check.due("every way to answer was seen", seen[0] > 0 && seen[1] > 0 && seen[2] > 0 && seen[3] > 0, true);
        check.end();
    }

    private interface Asked {
        long ask();
    }

    private static long answer(Asked asked) {
        try {
            return asked.ask();
        } catch (RuntimeException e) {
            if (!e.getStackTrace()[0].getClassName().startsWith("Subakhall")) {
                throw e;
            }
            if (e.getClass() == IndexOutOfBoundsException.class) {
                return Model.NO_SUCH;
            }
            if (e.getClass() == IllegalArgumentException.class) {
                return Model.BAD_ARGUMENT;
            }
            if (e.getClass() == IllegalStateException.class) {
                return Model.BAD_STATE;
            }
            throw e;
        }
    }

    private void same(String name, Asked got, long want) {
        calls++;
        if (calls > CALLS) {
            return;
        }
        long answered = answer(got);
        seen[want == Model.NO_SUCH ? 1 : want == Model.BAD_ARGUMENT ? 2 : want == Model.BAD_STATE ? 3 : 0]++;
        check.due(name, answered, want);
    }

    private void run(int seed) {
        for (int i = 0; calls < CALLS; i++) {
            String at = "run " + seed + " call " + i + ": ";
            if (i % 64 == 63) {
                same(at + "digest", () -> x.digest(), m.digest());
            } else if (i < 30 && random.nextInt(3) > 0) {
                tell(at);
            } else if (random.nextInt(10) < 4) {
                passDay(at);
            } else if (random.nextInt(5) < 3) {
                work(at);
            } else if (random.nextInt(3) == 0) {
                law(at);
            } else {
                ask(at);
            }
        }
    }

    /** Mostly within the bounds, at times at or beyond them. */
    private int within(int least, int most) {
        if (random.nextInt(40) == 0) {
            return random.nextBoolean() ? least - 1 : most + 1;
        }
        if (random.nextInt(200) == 0) {
            return random.nextBoolean() ? Integer.MIN_VALUE : Integer.MAX_VALUE;
        }
        if (random.nextInt(10) == 0) {
            return random.nextBoolean() ? least : most;
        }
        return least > most ? least : least + random.nextInt(most - least + 1);
    }

    private int field() {
        return within(0, m.f.size() - 1);
    }

    private int society() {
        return within(0, m.s.size() - 1);
    }

    private void tell(String at) {
        switch (random.nextInt(5)) {
            case 0: {
                int a = within(1, 9);
                int b = within(0, 50);
                int c = within(0, 209);
                int d = random.nextInt(3) == 0 ? 210 : within(1, 210);
                same(at + "society", () -> x.society(a, b, c, d), m.society(a, b, c, d));
                break;
            }
            case 1:
            case 2: {
                int a = society();
                int b = within(1, 9);
                int c = within(5, 60);
                same(at + "field", () -> x.field(a, b, c), m.field(a, b, c));
                break;
            }
            case 3: {
                int a = society();
                boolean is = random.nextBoolean();
                same(at + "rotate", () -> x.rotate(a, is) ? 1 : 0, m.rotate(a, is));
                break;
            }
            default: {
                int a = field();
                boolean is = random.nextInt(5) > 0;
                same(at + "gate", () -> x.gate(a, is) ? 1 : 0, m.gate(a, is));
            }
        }
    }

    private void passDay(String at) {
        int a = weather == 0 ? within(0, 200) : within(0, 40 * weather);
        int b = random.nextInt(3) == 0 ? within(0, 40) : within(5, 12);
        int c = random.nextInt(weather + 2) == 0 ? within(0, 30) : within(0, 4);
        same(at + "day", () -> x.day(a, b, c), m.day(a, b, c));
    }

    private void work(String at) {
        int a = field();
        boolean is = random.nextBoolean();
        switch (random.nextInt(8)) {
            case 0:
                same(at + "puddle", () -> x.puddle(a), m.puddle(a));
                break;
            case 1:
            case 2: {
                int b = within(0, 2);
                for (int i = random.nextInt(5); i > 0; i--) {
                    int c = field();
                    same(at + "help", () -> x.help(c, a), m.help(c, a));
                }
                same(at + "plant", () -> x.plant(a, b), m.plant(a, b));
                break;
            }
            case 3: {
                int b = field();
                same(at + "help", () -> x.help(b, a), m.help(b, a));
                break;
            }
            case 4: {
                boolean are = random.nextInt(4) == 0;
                same(at + "ducks", () -> x.ducks(a, are), m.ducks(a, are));
                break;
            }
            case 5:
                same(at + "harvest", () -> x.harvest(a, is), m.harvest(a, is));
                break;
            case 6:
                same(at + "cut", () -> x.cut(a), m.cut(a));
                break;
            default: {
                int b = within(0, 5);
                same(at + "stones", () -> x.stones(a, b), m.stones(a, b));
            }
        }
    }

    private void law(String at) {
        int a = society();
        switch (random.nextInt(4)) {
            case 0:
                same(at + "inspect", () -> x.inspect(a), m.inspect(a));
                break;
            case 1:
                same(at + "vote", () -> x.vote(a), m.vote(a));
                break;
            case 2:
                tell(at);
                break;
            default: {
                int b = field();
                int rice = within(1, 30);
                same(at + "sell", () -> x.sell(b, rice), m.sell(b, rice));
            }
        }
    }

    private void ask(String at) {
        int a = field();
        int s = society();
        int days = within(1, 40);
        int most = within(1, 30);
        int kind = within(0, 2);
        boolean is = random.nextBoolean();
        int of = within(0, 13);
        int owner = within(0, 3);
        int society = within(0, 8);
        int water = within(0, 6);
        int many = within(0, 11);
        switch (random.nextInt(12)) {
            case 0: same(at + "ofField", () -> x.ofField(a, of), m.ofField(a, of)); break;
            case 1: same(at + "ofOwner", () -> x.ofOwner(a, owner), m.ofOwner(a, owner)); break;
            case 2: same(at + "ofSociety", () -> x.ofSociety(s, society), m.ofSociety(s, society)); break;
            case 3: same(at + "water", () -> x.water(water), m.water(water)); break;
            case 4: same(at + "isClosed", () -> x.isClosed() ? 1 : 0, m.isClosed()); break;
            case 5: same(at + "thought", () -> x.thought(a, is), m.thought(a, is)); break;
            case 6: same(at + "many", () -> x.many(many), m.many(many)); break;
            case 7: same(at + "meanDepth", () -> Double.doubleToLongBits(x.meanDepth(s)), m.meanDepth(s)); break;
            case 8: same(at + "suspect", () -> x.suspect(s), m.suspect(s)); break;
            case 9: same(at + "wouldYield", () -> x.wouldYield(a, days), m.wouldYield(a, days)); break;
            case 10: same(at + "ripeIn", () -> x.ripeIn(days), m.ripeIn(days)); break;
            default: same(at + "plan", () -> x.plan(kind, most), m.plan(kind, most));
        }
    }
}
