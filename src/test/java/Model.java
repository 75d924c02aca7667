import java.util.ArrayList;
import java.util.List;

/**
 * The document read a second time, as plainly as it goes: rows of numbers, each step of a day as a
 * pass of its own, and what would be on a full copy. An answer that is refused is told as a REFUSED.
 */
final class Model {
    static final long NO_SUCH = Long.MIN_VALUE;
    static final long BAD_ARGUMENT = Long.MIN_VALUE + 1;
    static final long BAD_STATE = Long.MIN_VALUE + 2;

    static final class S {
        int notches, loss, from, days, chest, left, crop, weir, last = -1;
        boolean rotates;
    }

    static final class F {
        int of, notch, bund, stones, water, cracks, dry, stage, kind = -1, sum, vigour, pests;
        int nitrogen = 20, coins = 20, account, rice, help, got;
        int least = 0, most = 120;
        boolean open, ducks;
    }

    List<S> s = new ArrayList<>();
    List<F> f = new ArrayList<>();
    int day, rest, came, sank, drunk, out, cuts, yielded, flow, warmth, rain;

    Model copy() {
        Model m = new Model();
        for (S a : s) {
            S b = new S();
            b.notches = a.notches;
            b.loss = a.loss;
            b.from = a.from;
            b.days = a.days;
            b.left = a.left;
            b.last = a.last;
            b.rotates = a.rotates;
            m.s.add(b);
        }
        for (F a : f) {
            F b = new F();
            b.of = a.of;
            b.notch = a.notch;
            b.bund = a.bund;
            b.stones = a.stones;
            b.water = a.water;
            b.cracks = a.cracks;
            b.dry = a.dry;
            b.stage = a.stage;
            b.kind = a.kind;
            b.sum = a.sum;
            b.vigour = a.vigour;
            b.pests = a.pests;
            b.nitrogen = a.nitrogen;
            b.coins = a.coins;
            b.open = a.open;
            b.ducks = a.ducks;
            m.f.add(b);
        }
        m.day = day;
        m.rest = rest;
        m.flow = flow;
        m.warmth = warmth;
        m.rain = rain;
        return m;
    }

    boolean noS(int i) {
        return i < 0 || i >= s.size();
    }

    boolean noF(int i) {
        return i < 0 || i >= f.size();
    }

    long society(int notches, int loss, int from, int days) {
        if (notches < 1 || notches > 9 || loss < 0 || loss > 50 || from < 0 || from > 209 || days < 1
                || days > 210) {
            return BAD_ARGUMENT;
        }
        if (s.size() == 3) {
            return BAD_STATE;
        }
        S x = new S();
        x.notches = notches;
        x.loss = loss;
        x.from = from;
        x.days = days;
        s.add(x);
        return s.size() - 1;
    }

    long field(int society, int notch, int bund) {
        if (noS(society)) {
            return NO_SUCH;
        }
        if (notch < 1 || notch > 9 || bund < 5 || bund > 60) {
            return BAD_ARGUMENT;
        }
        if (f.size() == 12) {
            return BAD_STATE;
        }
        F x = new F();
        x.of = society;
        x.notch = notch;
        x.bund = bund;
        f.add(x);
        return f.size() - 1;
    }

    long gate(int field, boolean isOpen) {
        if (noF(field)) {
            return NO_SUCH;
        }
        long was = f.get(field).open ? 1 : 0;
        f.get(field).open = isOpen;
        return was;
    }

    long stones(int field, int stones) {
        if (noF(field)) {
            return NO_SUCH;
        }
        if (stones < 0 || stones > 5) {
            return BAD_ARGUMENT;
        }
        int was = f.get(field).stones;
        f.get(field).stones = stones;
        return was;
    }

    long rotate(int society, boolean is) {
        if (noS(society)) {
            return NO_SUCH;
        }
        long was = s.get(society).rotates ? 1 : 0;
        s.get(society).rotates = is;
        return was;
    }

    long puddle(int field) {
        if (noF(field)) {
            return NO_SUCH;
        }
        F x = f.get(field);
        if (x.stage != 0 || x.water < 10) {
            return BAD_STATE;
        }
        x.stage = 1;
        x.cracks = 0;
        return x.water;
    }

    long plant(int field, int kind) {
        if (noF(field)) {
            return NO_SUCH;
        }
        if (kind < 0 || kind > 2) {
            return BAD_ARGUMENT;
        }
        F x = f.get(field);
        if (x.stage != 1 || day % 30 == 0 || x.help < 3) {
            return BAD_STATE;
        }
        x.stage = 2;
        x.kind = kind;
        x.sum = 0;
        x.vigour = 100;
        x.help = 0;
        x.least = 0;
        x.most = 120;
        return day;
    }

    long help(int helper, int field) {
        if (noF(helper) || noF(field)) {
            return NO_SUCH;
        }
        if (helper != field) {
            f.get(helper).account += 1;
            f.get(field).account -= 1;
        }
        f.get(field).help += 1;
        return f.get(field).help;
    }

    long ducks(int field, boolean are) {
        if (noF(field)) {
            return NO_SUCH;
        }
        f.get(field).ducks = are;
        return f.get(field).pests;
    }

    static int yieldOf(F x) {
        if (x.stage != 5) {
            return 0;
        }
        int best = x.kind == 0 ? 40 : x.kind == 1 ? 60 : 80;
        return (best * x.vigour / 100) * (50 + x.nitrogen) / 100;
    }

    long harvest(int field, boolean isBurnt) {
        if (noF(field)) {
            return NO_SUCH;
        }
        F x = f.get(field);
        if (x.stage != 5) {
            return BAD_STATE;
        }
        int y = yieldOf(x);
        s.get(x.of).chest += y / 10;
        x.rice += y - y / 10;
        s.get(x.of).crop += y;
        yielded += y;
        x.stage = 0;
        x.kind = -1;
        if (isBurnt) {
            x.pests = x.pests / 2;
        } else {
            x.nitrogen = Math.min(50, x.nitrogen + 10);
        }
        return y;
    }

    long cut(int field) {
        if (noF(field)) {
            return NO_SUCH;
        }
        F x = f.get(field);
        if (x.stage != 5) {
            return BAD_STATE;
        }
        int c = yieldOf(x) * (90 + (7 * day + 13 * field + 5 * cuts) % 21) / 100;
        cuts++;
        int least = 0;
        while (110 * least < 100 * c) {
            least++;
        }
        int most = (100 * (c + 1) - 1) / 90;
        x.least = Math.max(x.least, least);
        x.most = Math.min(x.most, most);
        return c;
    }

    boolean windowOpen(S x) {
        int d = day % 210 - x.from;
        if (d < 0) {
            d += 210;
        }
        return d < x.days;
    }

    List<Integer> takers(int society) {
        List<Integer> list = new ArrayList<>();
        for (int i = 0; i < f.size(); i++) {
            if (f.get(i).of == society && f.get(i).open && f.get(i).coins >= 0) {
                list.add(i);
            }
        }
        return list;
    }

    int nextTurn(int society) {
        List<Integer> list = takers(society);
        for (int i : list) {
            if (i > s.get(society).last) {
                return i;
            }
        }
        return list.isEmpty() ? -1 : list.get(0);
    }

    long day(int flow, int warmth, int rain) {
        if (flow < 0 || flow > 200 || warmth < 0 || warmth > 40 || rain < 0 || rain > 30) {
            return BAD_ARGUMENT;
        }
        pass(flow, warmth, rain);
        return day;
    }

    void pass(int flow, int warmth, int rain) {
        day++;
        this.flow = flow;
        this.warmth = warmth;
        this.rain = rain;
        came += flow + rain * f.size();
        weir(flow + rest);
        for (F x : f) {
            x.got = 0;
        }
        for (int i = 0; i < s.size(); i++) {
            share(i);
        }
        int[] from = new int[f.size()];
        for (int i = 0; i < f.size(); i++) {
            waterOf(i, from, rain);
            growthOf(f.get(i), warmth);
            pestsOf(f.get(i));
        }
        fly();
    }

    void weir(int all) {
        int notches = 0;
        for (S x : s) {
            notches += x.notches;
        }
        rest = all;
        for (S x : s) {
            x.weir = all * x.notches / notches;
            rest -= x.weir;
        }
    }

    void share(int society) {
        S x = s.get(society);
        int lost = x.weir * x.loss / 100;
        sank += lost;
        int there = x.weir - lost + x.left;
        List<Integer> takers = takers(society);
        x.left = 0;
        if (takers.isEmpty() || !windowOpen(x)) {
            out += there;
        } else if (x.rotates) {
            int i = nextTurn(society);
            f.get(i).got = there;
            x.last = i;
        } else {
            int all = 0;
            for (int i : takers) {
                all += f.get(i).notch + f.get(i).stones;
            }
            int given = 0;
            for (int i : takers) {
                f.get(i).got = there * (f.get(i).notch + f.get(i).stones) / all;
                given += f.get(i).got;
            }
            x.left = there - given;
        }
    }

    void below(int i, int much, int[] from) {
        for (int j = i + 1; j < f.size(); j++) {
            if (f.get(j).of == f.get(i).of) {
                from[j] += much;
                return;
            }
        }
        out += much;
    }

    void waterOf(int i, int[] from, int rain) {
        F x = f.get(i);
        x.water += x.got + rain + from[i];
        if (x.water > x.bund) {
            below(i, x.water - x.bund, from);
            x.water = x.bund;
        }
        int seep = Math.min(1 + x.cracks, x.water);
        x.water -= seep;
        below(i, seep / 2, from);
        sank += seep - seep / 2;
        int drink = Math.min(x.stage == 2 || x.stage == 3 || x.stage == 4 ? 2 : 1, x.water);
        x.water -= drink;
        drunk += drink;
        if (x.water == 0) {
            x.dry++;
            if (x.dry % 3 == 0 && x.cracks < 3) {
                x.cracks++;
            }
        } else {
            x.dry = 0;
        }
    }

    static void growthOf(F x, int warmth) {
        if (x.stage < 2 || x.stage > 4) {
            return;
        }
        if (x.water < 2) {
            x.vigour -= x.stage == 2 ? 3 : x.stage == 3 ? 6 : 1;
        }
        if (x.water > 20) {
            x.vigour -= x.stage == 2 ? 2 : x.stage == 3 ? 4 : 1;
        }
        x.vigour -= x.pests / 20;
        if (x.vigour < 0) {
            x.vigour = 0;
        }
        x.sum += warmth;
        int[] asks = x.kind == 0 ? new int[] {60, 100, 150}
                : x.kind == 1 ? new int[] {80, 140, 200} : new int[] {100, 180, 260};
        for (int k = 0; k < 3; k++) {
            if (x.sum >= asks[k]) {
                x.stage = 3 + k;
            }
        }
        if (x.stage <= 4 && x.nitrogen > 0) {
            x.nitrogen--;
        }
    }

    static void pestsOf(F x) {
        if (x.stage >= 2 && x.stage <= 4) {
            x.pests = x.pests + 1 + x.pests / 4;
        }
        if (x.stage <= 1) {
            x.pests = x.pests / 2;
        }
        if (x.ducks) {
            x.pests -= 4;
        }
        x.pests = Math.max(0, Math.min(99, x.pests));
    }

    void fly() {
        int[] then = new int[f.size()];
        for (int i = 0; i < f.size(); i++) {
            then[i] += f.get(i).pests;
            if (f.get(i).pests <= 20) {
                continue;
            }
            int fifth = f.get(i).pests / 5;
            for (int j = i - 1; j >= 0; j--) {
                if (f.get(j).stage >= 2 && f.get(j).stage <= 4) {
                    then[j] += fifth;
                    then[i] -= fifth;
                    break;
                }
            }
            for (int j = i + 1; j < f.size(); j++) {
                if (f.get(j).stage >= 2 && f.get(j).stage <= 4) {
                    then[j] += fifth;
                    then[i] -= fifth;
                    break;
                }
            }
        }
        for (int i = 0; i < f.size(); i++) {
            f.get(i).pests = Math.min(99, then[i]);
        }
    }

    long inspect(int society) {
        if (noS(society)) {
            return NO_SUCH;
        }
        int paid = 0;
        for (F x : f) {
            if (x.of == society) {
                x.coins -= 5 * x.stones;
                paid += 5 * x.stones;
                x.stones = 0;
            }
        }
        s.get(society).chest += paid;
        return paid;
    }

    long sell(int field, int rice) {
        if (noF(field)) {
            return NO_SUCH;
        }
        if (rice < 1) {
            return BAD_ARGUMENT;
        }
        F x = f.get(field);
        if (x.rice < rice) {
            return BAD_STATE;
        }
        x.rice -= rice;
        x.coins += rice;
        return x.coins;
    }

    int fieldsOf(int society) {
        int n = 0;
        for (F x : f) {
            n += x.of == society ? 1 : 0;
        }
        return n;
    }

    int perField(int society) {
        return fieldsOf(society) == 0 ? 0 : s.get(society).crop / fieldsOf(society);
    }

    long vote(int society) {
        if (noS(society)) {
            return NO_SUCH;
        }
        int model = -1;
        for (int n = society - 1; n <= society + 1; n += 2) {
            if (!noS(n) && (model < 0 || perField(n) > perField(model))) {
                model = n;
            }
        }
        int yes = 0;
        for (F x : f) {
            if (x.of == society
                    && (model >= 0 && perField(model) > perField(society) || x.pests > 30)) {
                yes++;
            }
        }
        if (2 * yes > fieldsOf(society) && model >= 0) {
            s.get(society).from = s.get(model).from;
            s.get(society).days = s.get(model).days;
        }
        s.get(society).crop = 0;
        return yes;
    }

    long ofField(int field, int what) {
        if (noF(field)) {
            return NO_SUCH;
        }
        F x = f.get(field);
        boolean empty = x.stage <= 1;
        long[] row = {x.of, x.water, x.cracks, x.dry, x.stage, empty ? -1 : x.kind,
            empty ? 0 : x.sum, empty ? 0 : x.vigour, x.pests, x.nitrogen, yieldOf(x), x.help, x.got,
            x.open ? 1 : 0};
        return what < 0 || what >= row.length ? BAD_ARGUMENT : row[what];
    }

    long ofOwner(int field, int what) {
        if (noF(field)) {
            return NO_SUCH;
        }
        F x = f.get(field);
        long[] row = {x.coins, x.account, x.rice, x.coins < 0 ? 1 : 0};
        return what < 0 || what >= row.length ? BAD_ARGUMENT : row[what];
    }

    long ofSociety(int society, int what) {
        if (noS(society)) {
            return NO_SUCH;
        }
        S x = s.get(society);
        long[] row = {x.from, x.days, x.chest, x.left, windowOpen(x) ? 1 : 0, x.crop,
            fieldsOf(society), x.weir, nextTurn(society)};
        return what < 0 || what >= row.length ? BAD_ARGUMENT : row[what];
    }

    long water(int what) {
        int stand = 0;
        int left = 0;
        for (F x : f) {
            stand += x.water;
        }
        for (S x : s) {
            left += x.left;
        }
        long[] row = {came, stand, rest, left, sank, drunk, out};
        return what < 0 || what >= row.length ? BAD_ARGUMENT : row[what];
    }

    long isClosed() {
        return water(0) == water(1) + water(2) + water(3) + water(4) + water(5) + water(6) ? 1 : 0;
    }

    long thought(int field, boolean isMost) {
        return noF(field) ? NO_SUCH : isMost ? f.get(field).most : f.get(field).least;
    }

    long many(int what) {
        int pests = 0;
        int coins = 0;
        int chests = 0;
        int excluded = 0;
        int stones = 0;
        for (F x : f) {
            pests += x.pests;
            coins += x.coins;
            excluded += x.coins < 0 ? 1 : 0;
            stones += x.stones;
        }
        for (S x : s) {
            chests += x.chest;
        }
        long[] row = {s.size(), f.size(), day, day % 210, day % 30 == 0 ? 1 : 0, pests, coins,
            chests, excluded, cuts, yielded, stones};
        return what < 0 || what >= row.length ? BAD_ARGUMENT : row[what];
    }

    /** As the bits of the double. */
    long meanDepth(int society) {
        if (noS(society)) {
            return NO_SUCH;
        }
        double sum = 0;
        for (F x : f) {
            sum += x.of == society ? x.water : 0;
        }
        return Double.doubleToLongBits(fieldsOf(society) == 0 ? 0 : sum / fieldsOf(society));
    }

    long suspect(int society) {
        if (noS(society)) {
            return NO_SUCH;
        }
        int all = 0;
        int notches = 0;
        for (F x : f) {
            if (x.of == society && x.got > 0) {
                all += x.got;
                notches += x.notch;
            }
        }
        int found = -1;
        int most = 0;
        for (int i = 0; i < f.size(); i++) {
            F x = f.get(i);
            if (x.of == society && x.got > 0 && x.got - all * x.notch / notches > most) {
                most = x.got - all * x.notch / notches;
                found = i;
            }
        }
        return found;
    }

    long wouldYield(int field, int days) {
        if (noF(field)) {
            return NO_SUCH;
        }
        if (days < 1 || days > 40) {
            return BAD_ARGUMENT;
        }
        Model m = copy();
        for (int i = 0; i < days; i++) {
            m.pass(flow, warmth, rain);
        }
        return yieldOf(m.f.get(field));
    }

    long ripeIn(int days) {
        if (days < 1 || days > 40) {
            return BAD_ARGUMENT;
        }
        Model m = copy();
        for (int i = 1; i <= days; i++) {
            m.pass(flow, warmth, rain);
            for (int j = 0; j < f.size(); j++) {
                if (f.get(j).stage != 5 && m.f.get(j).stage == 5) {
                    return i;
                }
            }
        }
        return -1;
    }

    long plan(int kind, int days) {
        if (kind < 0 || kind > 2 || days < 1 || days > 30) {
            return BAD_ARGUMENT;
        }
        long best = -1;
        int most = -1;
        int[] off = new int[3];
        for (off[2] = 0; off[2] < (s.size() > 2 ? 3 : 1); off[2]++) {
            for (off[1] = 0; off[1] < (s.size() > 1 ? 3 : 1); off[1]++) {
                for (off[0] = 0; off[0] < (s.size() > 0 ? 3 : 1); off[0]++) {
                    int y = planned(off, kind, days);
                    if (y > most) {
                        most = y;
                        best = off[0] + 3 * off[1] + 9 * off[2];
                    }
                }
            }
        }
        return best;
    }

    private int planned(int[] off, int kind, int days) {
        Model m = copy();
        for (int i = 0; i < days; i++) {
            for (F x : m.f) {
                if (off[x.of] * 5 == i && x.stage <= 1) {
                    x.stage = 2;
                    x.kind = kind;
                    x.sum = 0;
                    x.vigour = 100;
                    x.cracks = 0;
                }
            }
            m.pass(flow, warmth, rain);
        }
        int sum = 0;
        for (F x : m.f) {
            sum += yieldOf(x);
        }
        return sum;
    }

    long digest() {
        long d = 58173;
        for (int i = 0; i < 12; i++) {
            d = d * 31 + many(i);
        }
        for (int i = 0; i < 7; i++) {
            d = d * 31 + water(i);
        }
        d = d * 31 + isClosed();
        for (int i = 0; i < s.size(); i++) {
            for (int w = 0; w < 9; w++) {
                d = d * 31 + ofSociety(i, w);
            }
            d = d * 31 + suspect(i);
        }
        for (int i = 0; i < f.size(); i++) {
            for (int w = 0; w < 14; w++) {
                d = d * 31 + ofField(i, w);
            }
            for (int w = 0; w < 4; w++) {
                d = d * 31 + ofOwner(i, w);
            }
            d = d * 31 + thought(i, false);
            d = d * 31 + thought(i, true);
            d = d * 31 + wouldYield(i, 5);
        }
        d = d * 31 + ripeIn(10);
        return d * 31 + plan(0, 12);
    }
}
