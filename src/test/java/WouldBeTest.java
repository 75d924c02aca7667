/** Promises 26 to 29. */
public final class WouldBeTest {
    private static final Check check = new Check("WouldBeTest");

    public static void main(String[] args) {
        wouldYield();
        ripeIn();
        planNow();
        planPutsOff();
        planOfThree();
        planRefuses();
        digest();
        check.end();
    }

    private static void wouldYield() {
        Subakhall x = Check.planted(0);
        x.day(3, 40, 0);
        check.due("26: a DAY too few", x.wouldYield(0, 2), 0);
        long before = x.digest();
        int would = x.wouldYield(0, 3);
        check.due("26: nothing is changed", x.digest(), before);
        check.due("26: 18 deep, of 100", would, 26);
        for (int i = 0; i < 3; i++) {
            x.day(3, 40, 0);
        }
        check.due("26: as it comes", x.ofField(0, 10), would);
        check.due("26: RIPE already", x.wouldYield(0, 40), would);
        Subakhall y = Check.oneField(60);
        check.due("26: FALLOW", y.wouldYield(0, 40), 0);
        check.badArgument("26: wouldYield(0, 0)", x, () -> x.wouldYield(0, 0));
        check.badArgument("26: wouldYield(0, 41)", x, () -> x.wouldYield(0, 41));
        check.noSuch("26: wouldYield(1, 0)", x, () -> x.wouldYield(1, 0));
        check.noSuch("26: wouldYield(-1, 1)", x, () -> x.wouldYield(-1, 1));
        wouldYieldAgainstTheRealHill();
    }

    /** Two societies, rotating, fined, cracked, with pests: what would be is what then is. */
    private static void wouldYieldAgainstTheRealHill() {
        for (int days = 1; days <= 40; days++) {
            Subakhall x = motley();
            int[] would = new int[5];
            for (int f = 0; f < 5; f++) {
                would[f] = x.wouldYield(f, days);
            }
            for (int i = 0; i < days; i++) {
                x.day(33, 11, 1);
            }
            for (int f = 0; f < 5; f++) {
                check.due("26: field " + f + " in " + days, would[f], x.ofField(f, 10));
            }
        }
    }

    private static Subakhall motley() {
        Subakhall x = new Subakhall();
        x.society(2, 5, 0, 40);
        x.society(3, 9, 20, 100);
        for (int f = 0; f < 5; f++) {
            x.field(f % 2, 1 + f, 20 + 4 * f);
            x.gate(f, f != 1);
        }
        for (int i = 0; i < 5; i++) {
            x.day(150, 10, 6);
        }
        x.rotate(1, true);
        x.stones(2, 5);
        x.inspect(0);
        x.stones(4, 2);
        for (int f = 0; f < 5; f++) {
            x.puddle(f);
            x.help(f, f);
            x.help(f, f);
            x.help(f, f);
        }
        for (int f = 0; f < 4; f++) {
            x.plant(f, f % 3);
        }
        x.ducks(3, true);
        for (int i = 0; i < 3; i++) {
            x.day(33, 11, 1);
        }
        return x;
    }

    private static void ripeIn() {
        Subakhall x = Check.planted(0);
        check.due("27: WARMTH of the last DAY was 0", x.ripeIn(40), -1);
        x.day(3, 30, 0);
        check.due("27: 30 and 4 times 30", x.ripeIn(10), 4);
        check.due("27: 4 of 4", x.ripeIn(4), 4);
        check.due("27: 4 of 3", x.ripeIn(3), -1);
        check.due("27: nothing is changed", x.ofField(0, 6), 30);
        Subakhall y = Check.ripe();
        check.due("27: who is RIPE now does not count", y.ripeIn(40), -1);
        y.field(0, 1, 60);
        y.day(0, 0, 30);
        y.puddle(1);
        Check.helpAndPlant(y, 1, 0);
        y.day(0, 15, 1);
        check.due("27: another one", y.ripeIn(40), 9);
        check.badArgument("27: ripeIn(0)", x, () -> x.ripeIn(0));
        check.badArgument("27: ripeIn(41)", x, () -> x.ripeIn(41));
    }

    private static void planNow() {
        Subakhall x = Check.oneField(60);
        x.day(20, 0, 0);
        x.day(3, 40, 0);
        // On a dark day or not, without help, fallow: planted now it is ripe in 4 days.
        check.due("28: too short to yield: the smallest", x.plan(0, 3), 0);
        check.due("28: only at once", x.plan(0, 4), 0);
        check.due("28: nothing is changed", x.ofField(0, 4), 0);
        check.due("28: planted at once and 5 days on it is as good", x.plan(0, 9), 0);
    }

    private static void planPutsOff() {
        // A flood of 40 comes first and runs off by day: what is planted late stands better.
        Subakhall x = new Subakhall();
        x.society(1, 0, 0, 210);
        x.field(0, 1, 60);
        x.day(0, 0, 30);
        x.day(0, 0, 30);
        x.day(0, 40, 0);
        check.due("28: deep", x.ofField(0, 1), 54);
        check.due("28: planted now it is drowned", yieldPlanted(x, 0, 30), 0);
        check.due("28: plan(0, 30)", x.plan(0, 30), bestByHand(0, 30));
        check.due("28: 5 days are not among 5", x.plan(0, 5), 0);
    }

    private static int yieldPlanted(Subakhall x, int field, int days) {
        return x.wouldYield(field, days);
    }

    /** The same hill with the field planted on each of the three days, played by its own calls. */
    private static int bestByHand(int kind, int days) {
        int best = 0;
        int most = -1;
        for (int off = 0; off < 3; off++) {
            Subakhall x = new Subakhall();
            x.society(1, 0, 0, 210);
            x.field(0, 1, 60);
            x.day(0, 0, 30);
            x.day(0, 0, 30);
            x.day(0, 40, 0);
            for (int passed = 0; passed < days; passed++) {
                if (passed == 5 * off) {
                    x.puddle(0);
                    Check.helpAndPlant(x, 0, kind);
                }
                x.day(0, 40, 0);
            }
            if (x.ofField(0, 10) > most) {
                most = x.ofField(0, 10);
                best = off;
            }
        }
        return best;
    }

    /** Three societies on steps of their own; each plan is played by hand. */
    private static void planOfThree() {
        for (int kind = 0; kind < 3; kind++) {
            int best = 0;
            int most = -1;
            for (int tried = 0; tried < 27; tried++) {
                int yielded = playPlan(tried, kind, 18);
                if (yielded > most) {
                    most = yielded;
                    best = tried;
                }
            }
            Subakhall x = wetSteps();
            check.due("28: plan(" + kind + ", 18)", x.plan(kind, 18), best);
            check.due("28: it is no plain one", most > 0, true);
        }
    }

    private static Subakhall wetSteps() {
        Subakhall x = new Subakhall();
        x.society(1, 0, 0, 14);
        x.society(2, 0, 12, 30);
        x.society(4, 0, 1, 210);
        for (int s = 0; s < 3; s++) {
            x.field(s, 1, 60);
            x.field(s, 2, 40);
            x.gate(2 * s, true);
        }
        x.day(0, 0, 30);
        x.day(0, 0, 30);
        x.day(21, 25, 2);
        return x;
    }

    private static int playPlan(int tried, int kind, int days) {
        Subakhall x = wetSteps();
        int[] off = {tried % 3, tried / 3 % 3, tried / 9};
        for (int passed = 0; passed < days; passed++) {
            for (int f = 0; f < 6; f++) {
                if (passed == 5 * off[f / 2]) {
                    x.puddle(f);
                    Check.helpAndPlant(x, f, kind);
                }
            }
            x.day(21, 25, 2);
        }
        int sum = 0;
        for (int f = 0; f < 6; f++) {
            sum += x.ofField(f, 10);
        }
        return sum;
    }

    private static void planRefuses() {
        Subakhall x = Check.oneField(60);
        check.badArgument("28: plan(3, 1)", x, () -> x.plan(3, 1));
        check.badArgument("28: plan(-1, 1)", x, () -> x.plan(-1, 1));
        check.badArgument("28: plan(0, 0)", x, () -> x.plan(0, 0));
        check.badArgument("28: plan(0, 31)", x, () -> x.plan(0, 31));
        check.due("28: plan(0, 30)", x.plan(0, 30), 0);
    }

    private static void digest() {
        Subakhall empty = new Subakhall();
        check.due("29: of a new object", empty.digest(), digestByCalls(empty));
        Subakhall x = motley();
        check.due("29: of a motley hill", x.digest(), digestByCalls(x));
        check.due("29: nothing is changed", x.digest(), digestByCalls(x));
        Subakhall y = Check.ripe();
        y.cut(0);
        check.due("29: of a RIPE FIELD", y.digest(), digestByCalls(y));
    }

    private static long digestByCalls(Subakhall x) {
        long d = 58173;
        for (int what = 0; what <= 11; what++) {
            d = d * 31 + x.many(what);
        }
        for (int what = 0; what <= 6; what++) {
            d = d * 31 + x.water(what);
        }
        d = d * 31 + (x.isClosed() ? 1 : 0);
        for (int s = 0; s < x.many(0); s++) {
            for (int what = 0; what <= 8; what++) {
                d = d * 31 + x.ofSociety(s, what);
            }
            d = d * 31 + x.suspect(s);
        }
        for (int f = 0; f < x.many(1); f++) {
            for (int what = 0; what <= 13; what++) {
                d = d * 31 + x.ofField(f, what);
            }
            for (int what = 0; what <= 3; what++) {
                d = d * 31 + x.ofOwner(f, what);
            }
            d = d * 31 + x.thought(f, false);
            d = d * 31 + x.thought(f, true);
            d = d * 31 + x.wouldYield(f, 5);
        }
        d = d * 31 + x.ripeIn(10);
        return d * 31 + x.plan(0, 12);
    }
}
