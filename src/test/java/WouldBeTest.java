/** Promises 26 to 29. */
public final class WouldBeTest {
    private static final Check check = new Check("WouldBeTest");

    public static void main(String[] args) {
        wouldYield();
        ripeIn();
        plan();
        planByKind();
        planMendsCracks();
        planLeavesWhatGrows();
        planRefuses();
        digest();
        check.end();
    }

    private static void wouldYield() {
        Subakhall x = Check.planted(0);
        x.day(3, 40, 0);
        check.due("26: a DAY too few", x.wouldYield(0, 2), 0);
        long before = x.digest();
        int would = x.wouldYield(0, 3);
        check.due("26: nothing is changed", x.digest(), before);
        check.due("26: 18 deep, of 100", would, 26);
        for (int i = 0; i < 3; i++) {
            x.day(3, 40, 0);
        }
        check.due("26: as it comes", x.ofField(0, 10), would);
        check.due("26: RIPE already", x.wouldYield(0, 40), would);
        Subakhall y = Check.oneField(60);
        check.due("26: FALLOW", y.wouldYield(0, 40), 0);
        check.badArgument("26: wouldYield(0, 0)", x, () -> x.wouldYield(0, 0));
        check.badArgument("26: wouldYield(0, 41)", x, () -> x.wouldYield(0, 41));
        check.noSuch("26: wouldYield(1, 0)", x, () -> x.wouldYield(1, 0));
        check.noSuch("26: wouldYield(-1, 1)", x, () -> x.wouldYield(-1, 1));
        wouldYieldAgainstTheRealHill();
        wouldYieldInTurns();
        wouldYieldByWhatIsLeft();
        wouldYieldByTheRest();
        wouldYieldBehindAVote();
        wouldYieldWithADryField();
    }

    /** Asks, lets the days pass in earnest, and compares. */
    private static void asItComes(String why, Subakhall x, int days, int[] weather) {
        int[] would = new int[x.many(1)];
        for (int f = 0; f < would.length; f++) {
            would[f] = x.wouldYield(f, days);
        }
        for (int i = 0; i < days; i++) {
            x.day(weather[0], weather[1], weather[2]);
        }
        for (int f = 0; f < would.length; f++) {
            check.due("26: " + why + ", field " + f, would[f], x.ofField(f, 10));
        }
    }

    private static void ripensAsItComes(String why, Subakhall x, int days, int flow) {
        check.due("26: " + why + ", there is a YIELD", x.wouldYield(0, days) > 0, true);
        asItComes(why, x, days, new int[] {flow, 37, 0});
    }

    /** Wet fields of society 0, planted with KIND 2 on day 1, 18 deep, with shut gates and ducks. */
    private static Subakhall wet(int societies, int fields, int from) {
        Subakhall x = new Subakhall();
        for (int s = 0; s < societies; s++) {
            x.society(1, 0, from, 210 - from);
        }
        for (int f = 0; f < fields; f++) {
            x.field(0, 1, 20);
        }
        x.day(0, 0, 30);
        for (int f = 0; f < fields; f++) {
            x.puddle(f);
            Check.helpAndPlant(x, f, 2);
            x.ducks(f, true);
        }
        return x;
    }

    private static void wouldYieldInTurns() {
        for (int flow = 1; flow <= 12; flow++) {
            Subakhall x = wet(1, 2, 0);
            x.gate(0, true);
            x.gate(1, true);
            x.rotate(0, true);
            for (int i = 0; i < 4; i++) {
                x.day(0, 0, 0);
            }
            x.day(flow, 37, 0);
            check.due("26: the turn of 1 is next", x.ofSociety(0, 8), 1);
            ripensAsItComes("in turns", x, 7, flow);
        }
    }

    private static void wouldYieldByWhatIsLeft() {
        Subakhall x = wet(1, 3, 0);
        for (int i = 0; i < 4; i++) {
            x.day(0, 0, 0);
        }
        x.gate(0, true);
        x.gate(1, true);
        x.gate(2, true);
        x.day(2, 37, 0);
        x.gate(1, false);
        x.gate(2, false);
        check.due("26: LEFT", x.ofSociety(0, 3), 2);
        ripensAsItComes("by what is LEFT", x, 7, 2);
    }

    private static void wouldYieldByTheRest() {
        Subakhall x = wet(2, 1, 0);
        for (int i = 0; i < 3; i++) {
            x.day(0, 0, 0);
        }
        x.gate(0, true);
        x.day(1, 37, 0);
        check.due("26: REST", x.water(2), 1);
        check.due("26: 6 deep", x.ofField(0, 1), 6);
        ripensAsItComes("by the REST", x, 7, 1);
        Subakhall y = wet(2, 1, 0);
        for (int i = 0; i < 2; i++) {
            y.day(2, 0, 0);
        }
        y.gate(0, true);
        y.day(1, 37, 0);
        y.day(1, 37, 0);
        y.day(1, 37, 0);
        check.due("26: 4 deep", y.ofField(0, 1), 4);
        check.due("26: REST", y.water(2), 1);
        ripensAsItComes("by the REST, once more", y, 5, 1);
    }

    private static void wouldYieldBehindAVote() {
        int[][] models = {{100, 10}, {10, 17}, {0, 17}};
        for (int[] model : models) {
            Subakhall x = Check.planted(2);
            for (int i = 0; i < 12; i++) {
                Check.dayTo(x, 15, 0);
            }
            x.ducks(0, true);
            for (int i = 0; i < 3; i++) {
                x.day(0, 0, 0);
            }
            x.society(1, 0, model[0], model[1]);
            check.due("26: it votes", x.vote(0), 1);
            x.day(6, 37, 0);
            ripensAsItComes("behind a VOTE", x, 7, 6);
        }
    }

    private static void wouldYieldWithADryField() {
        Subakhall x = wet(1, 1, 10);
        x.gate(0, true);
        for (int i = 0; i < 6; i++) {
            x.day(0, 0, 0);
        }
        x.day(5, 37, 0);
        check.due("26: DRY", x.ofField(0, 3), 2);
        ripensAsItComes("with a DRY FIELD", x, 7, 5);
    }

    /** What would be is what then is, in many a weather, for fields that are wet, dry, or bitten. */
    private static void wouldYieldAgainstTheRealHill() {
        for (int days = 1; days <= 40; days += 3) {
            for (int flow = 5; flow <= 65; flow += 15) {
                for (int rain = 0; rain <= 2; rain++) {
                    int[] weather = {flow, 9 + flow % 7, rain};
                    asItComes("in " + days + " by " + flow, motley(weather), days, weather);
                }
            }
        }
    }

    /** Two societies, one rotating and one with a window that shuts soon; an owner is excluded. */
    private static Subakhall motley(int[] weather) {
        Subakhall x = new Subakhall();
        x.society(2, 5, 0, 15);
        x.society(3, 9, 4, 100);
        for (int f = 0; f < 5; f++) {
            x.field(f % 2, 1 + f, 20 + 4 * f);
            x.gate(f, f != 1);
        }
        for (int i = 0; i < 5; i++) {
            x.day(60, 10, 6);
        }
        x.rotate(1, true);
        x.stones(2, 5);
        x.inspect(0);
        x.stones(4, 2);
        for (int f = 0; f < 4; f++) {
            x.puddle(f);
            Check.helpAndPlant(x, f, f % 3);
        }
        x.ducks(0, weather[0] > 20);
        x.ducks(3, true);
        for (int i = 0; i < 3; i++) {
            x.day(weather[0], weather[1], weather[2]);
        }
        return x;
    }

    private static void ripeIn() {
        Subakhall x = Check.planted(0);
        check.due("27: WARMTH of the last DAY was 0", x.ripeIn(40), -1);
        x.day(3, 30, 0);
        check.due("27: 30 and 4 times 30", x.ripeIn(10), 4);
        check.due("27: 4 of 4", x.ripeIn(4), 4);
        check.due("27: 4 of 3", x.ripeIn(3), -1);
        check.due("27: nothing is changed", x.ofField(0, 6), 30);
        Subakhall y = Check.ripe();
        check.due("27: who is RIPE now does not count", y.ripeIn(40), -1);
        y.field(0, 1, 60);
        y.day(0, 0, 30);
        y.puddle(1);
        Check.helpAndPlant(y, 1, 0);
        y.day(0, 15, 1);
        check.due("27: another one", y.ripeIn(40), 9);
        check.badArgument("27: ripeIn(0)", x, () -> x.ripeIn(0));
        check.badArgument("27: ripeIn(41)", x, () -> x.ripeIn(41));
    }

    /** Three societies with a field each, 44, 36 and 20 deep; nothing comes, each day is warm. */
    private static Subakhall threeDeep() {
        Subakhall x = new Subakhall();
        int[] bunds = {48, 40, 24};
        for (int s = 0; s < 3; s++) {
            x.society(1, 0, 0, 210);
            x.field(s, 1, bunds[s]);
        }
        x.day(0, 0, 30);
        x.day(0, 0, 30);
        x.day(0, 40, 0);
        x.puddle(1);
        return x;
    }

    /**
     * KIND 0 is RIPE in 4 days. Above 20 these hurt by 2, 2, 4, 1, which yields 24 of 26; by 2 alone
     * it is 26 yet. A day takes 2 of the WATER, and 3 when planted.
     * 44 deep it stands best after 10 days, 36 deep after 5 or 10, and 20 deep at once.
     */
    private static void plan() {
        Subakhall x = threeDeep();
        check.due("28: 44 deep", x.ofField(0, 1), 44);
        check.due("28: 36 deep", x.ofField(1, 1), 36);
        check.due("28: 20 deep", x.ofField(2, 1), 20);
        check.due("28: too short to yield: the smallest", x.plan(0, 3), 0);
        check.due("28: at once or not at all", x.plan(0, 5), 0);
        check.due("28: 3 days behind 5 are too few", x.plan(0, 8), 0);
        check.due("28: society 1 puts off by 5", x.plan(0, 9), 3);
        check.due("28: 10 are as many as pass", x.plan(0, 10), 3);
        check.due("28: 3 days behind 10 are too few", x.plan(0, 13), 3);
        check.due("28: society 0 puts off by 10", x.plan(0, 14), 2 + 3);
        check.due("28: nothing is changed", x.ofField(0, 4), 0);
        check.due("28: nothing is changed", x.ofField(1, 4), 1);
        x.day(0, 40, 0);
        check.due("28: ever the same ahead of a DARK DAY", x.plan(0, 3), 0);
        Subakhall one = Check.oneField(60);
        check.due("28: ahead of the first DAY, without WARMTH", one.plan(0, 30), 0);
    }

    private static void planByKind() {
        // 42 deep. KIND 2 takes 7 days, of which the first is hurt by 2 if put off by 10.
        Subakhall x = new Subakhall();
        x.society(1, 0, 0, 210);
        x.field(0, 1, 46);
        x.day(0, 0, 30);
        x.day(0, 0, 30);
        x.day(0, 40, 0);
        check.due("28: 42 deep", x.ofField(0, 1), 42);
        check.due("28: KIND 2 is not RIPE behind 10", x.plan(2, 16), 1);
        check.due("28: KIND 2 is RIPE behind 10", x.plan(2, 17), 2);
        check.due("28: KIND 1 is not RIPE behind 10", x.plan(1, 14), 1);
        check.due("28: KIND 1 is RIPE behind 10", x.plan(1, 15), 2);
    }

    private static void planMendsCracks() {
        Subakhall x = Check.oneField(60);
        for (int i = 0; i < 9; i++) {
            x.day(0, 0, 0);
        }
        x.day(30, 0, 0);
        x.day(22, 0, 0);
        x.day(0, 40, 0);
        check.due("28: CRACKS", x.ofField(0, 2), 3);
        check.due("28: 37 deep", x.ofField(0, 1), 37);
        // 12 deep in 5 days, and then a planted one loses 3 a day, and no more.
        check.due("28: with no CRACKS", x.plan(0, 9), 1);
    }

    private static void planLeavesWhatGrows() {
        Subakhall x = Check.planted(0);
        x.day(3, 40, 0);
        x.day(3, 40, 0);
        check.due("28: it is RIPE in 2, and not planted anew", x.plan(0, 3), 0);
    }

    private static void planRefuses() {
        Subakhall x = Check.oneField(60);
        check.badArgument("28: plan(3, 1)", x, () -> x.plan(3, 1));
        check.badArgument("28: plan(-1, 1)", x, () -> x.plan(-1, 1));
        check.badArgument("28: plan(0, 0)", x, () -> x.plan(0, 0));
        check.badArgument("28: plan(0, 31)", x, () -> x.plan(0, 31));
        check.due("28: plan(0, 30)", x.plan(0, 30), 0);
    }

    private static void digest() {
        Subakhall empty = new Subakhall();
        check.due("29: of a new object", empty.digest(), digestByCalls(empty));
        Subakhall x = motley(new int[] {33, 12, 1});
        check.due("29: of a motley hill", x.digest(), digestByCalls(x));
        check.due("29: nothing is changed", x.digest(), digestByCalls(x));
        Subakhall y = Check.ripe();
        y.cut(0);
        check.due("29: of a RIPE FIELD", y.digest(), digestByCalls(y));
        Subakhall yields = Check.planted(0);
        yields.day(3, 24, 0);
        check.due("29: RIPE in 6", yields.ripeIn(10), 6);
        check.due("29: wouldYield() of 5", yields.digest(), digestByCalls(yields));
        Subakhall ripens = Check.planted(0);
        ripens.day(3, 13, 0);
        check.due("29: RIPE in 11", ripens.ripeIn(11), 11);
        check.due("29: ripeIn() of 10", ripens.digest(), digestByCalls(ripens));
        Subakhall plans = threeDeep();
        plans.day(0, 20, 0);
        check.due("29: plan(0, 12)", plans.plan(0, 12), 0);
        check.due("29: another one behind 13", plans.plan(0, 13) > 0, true);
        check.due("29: plan() of 0 and 12", plans.digest(), digestByCalls(plans));
        Subakhall kinds = threeDeep();
        kinds.day(0, 25, 0);
        check.due("29: another one of KIND 1", kinds.plan(0, 12) == kinds.plan(1, 12), false);
        check.due("29: plan() of KIND 0", kinds.digest(), digestByCalls(kinds));
    }

    /** Asks for each of its numbers by a call of its own. */
    static long digestByCalls(Subakhall x) {
        long d = 58173;
        for (int what = 0; what <= 11; what++) {
            d = d * 31 + x.many(what);
        }
        for (int what = 0; what <= 6; what++) {
            d = d * 31 + x.water(what);
        }
        d = d * 31 + (x.isClosed() ? 1 : 0);
        for (int s = 0; s < x.many(0); s++) {
            for (int what = 0; what <= 8; what++) {
                d = d * 31 + x.ofSociety(s, what);
            }
            d = d * 31 + x.suspect(s);
        }
        for (int f = 0; f < x.many(1); f++) {
            for (int what = 0; what <= 13; what++) {
                d = d * 31 + x.ofField(f, what);
            }
            for (int what = 0; what <= 3; what++) {
                d = d * 31 + x.ofOwner(f, what);
            }
            d = d * 31 + x.thought(f, false);
            d = d * 31 + x.thought(f, true);
            d = d * 31 + x.wouldYield(f, 5);
        }
        d = d * 31 + x.ripeIn(10);
        return d * 31 + x.plan(0, 12);
    }
}
