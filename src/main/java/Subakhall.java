import java.util.ArrayList;

public final class Subakhall {
    private static final int NONE = -1;

    private static final int MOST_SOCIETIES = 3;
    private static final int MOST_FIELDS = 12;
    private static final int TEMPLE_YEAR = 210;
    private static final int DARK_EVERY = 30;

    private static final int FALLOW = 0;
    private static final int PUDDLED = 1;
    private static final int GROWING = 2;
    private static final int FLOWERING = 3;
    private static final int RIPENING = 4;
    private static final int RIPE = 5;

    private static final int[] FLOWERS_AT = {60, 80, 100};
    private static final int[] RIPENS_AT = {100, 140, 180};
    private static final int[] RIPE_AT = {150, 200, 260};
    private static final int[] BEST_YIELD = {40, 60, 80};

    // By the stage, FALLOW to RIPE: only a growing plant is hurt.
    private static final int[] HURT_BY_DROUGHT = {0, 0, 3, 6, 1, 0};
    private static final int[] HURT_BY_FLOOD = {0, 0, 2, 4, 1, 0};

    private static final int WATER_TO_PUDDLE = 10;
    private static final int HELP_TO_PLANT = 3;
    private static final int DROUGHT_BELOW = 2;
    private static final int FLOOD_ABOVE = 20;
    private static final int MOST_CRACKS = 3;
    private static final int MOST_PESTS = 99;
    private static final int PESTS_FLY_ABOVE = 20;
    private static final int PESTS_ALARM_ABOVE = 30;
    private static final int PESTS_EATEN = 4;
    private static final int MOST_NITROGEN = 50;
    private static final int STRAW_NITROGEN = 10;
    private static final int MOST_THOUGHT = 120;
    private static final int FINE = 5;

    // What the face is asked for, as the document numbers it.
    private static final int FIELD_WATER = 1;
    private static final int FIELD_PESTS = 8;
    private static final int OWNER_COINS = 0;
    private static final int OWNER_EXCLUDED = 3;
    private static final int SOCIETY_CHEST = 2;
    private static final int SOCIETY_LEFT = 3;

    private static final int PUT_OFFS = 3;
    private static final int PUT_OFF_DAYS = 5;

    private static final int DIGEST_START = 58173;
    private static final int DIGEST_YIELD_DAYS = 5;
    private static final int DIGEST_RIPE_DAYS = 10;
    private static final int DIGEST_PLAN_DAYS = 12;

    private final Hill hill;
    // What would be is tried here, so that a question makes no new objects.
    private final Hill trial;

    public Subakhall() {
        hill = new Hill();
        trial = new Hill();
    }

    // ---- societies and fields

    public int society(int notches, int loss, int from, int days)
            throws IllegalArgumentException, IllegalStateException {
        if (!isWithin(notches, 1, 9) || !isWithin(loss, 0, 50)
                || !isWithin(from, 0, TEMPLE_YEAR - 1) || !isWithin(days, 1, TEMPLE_YEAR)) {
            throw new IllegalArgumentException("notches, loss, from or days out of range");
        }
        if (hill.societies.size() >= MOST_SOCIETIES) {
            throw new IllegalStateException("there are as many societies as can be");
        }
        trial.addSociety(notches, loss, from, days);
        return hill.addSociety(notches, loss, from, days);
    }

    public int field(int society, int notch, int bund)
            throws IndexOutOfBoundsException, IllegalArgumentException, IllegalStateException {
        societyAt(society);
        if (!isWithin(notch, 1, 9) || !isWithin(bund, 5, 60)) {
            throw new IllegalArgumentException("notch or bund out of range");
        }
        if (hill.fields.size() >= MOST_FIELDS) {
            throw new IllegalStateException("there are as many fields as can be");
        }
        trial.addField(society, notch, bund);
        return hill.addField(society, notch, bund);
    }

    public boolean gate(int field, boolean isOpen) throws IndexOutOfBoundsException {
        Field its = fieldAt(field);
        boolean was = its.isOpen;
        its.isOpen = isOpen;
        return was;
    }

    public int stones(int field, int stones)
            throws IndexOutOfBoundsException, IllegalArgumentException {
        Field its = fieldAt(field);
        if (!isWithin(stones, 0, 5)) {
            throw new IllegalArgumentException("stones out of range");
        }
        int before = its.stones;
        its.stones = stones;
        return before;
    }

    public boolean rotate(int society, boolean is) throws IndexOutOfBoundsException {
        Society its = societyAt(society);
        boolean did = its.isRotating;
        its.isRotating = is;
        return did;
    }

    // ---- work and days

    public int puddle(int field) throws IndexOutOfBoundsException, IllegalStateException {
        Field its = fieldAt(field);
        if (its.crop.stage != FALLOW || its.water < WATER_TO_PUDDLE) {
            throw new IllegalStateException("it is not fallow, or too dry");
        }
        its.crop.stage = PUDDLED;
        its.cracks = 0;
        return its.water;
    }

    public int plant(int field, int kind)
            throws IndexOutOfBoundsException, IllegalArgumentException, IllegalStateException {
        Field its = fieldAt(field);
        checkKind(kind);
        if (its.crop.stage != PUDDLED || hill.isDark() || its.crop.help < HELP_TO_PLANT) {
            throw new IllegalStateException("it is not puddled, the day is dark, or help is missing");
        }
        its.crop.begin(kind);
        return hill.day;
    }

    public int help(int helper, int field) throws IndexOutOfBoundsException {
        Owner giving = fieldAt(helper).owner;
        Field its = fieldAt(field);
        giving.account++;
        its.owner.account--;
        its.crop.help++;
        return its.crop.help;
    }

    public int ducks(int field, boolean are) throws IndexOutOfBoundsException {
        Field its = fieldAt(field);
        its.hasDucks = are;
        return its.pests;
    }

    public int harvest(int field, boolean isBurnt)
            throws IndexOutOfBoundsException, IllegalStateException {
        Field its = ripeFieldAt(field);
        int yielded = its.crop.ripeYield();
        int tenth = yielded / 10;
        its.society.chest += tenth;
        its.society.crop += yielded;
        its.owner.rice += yielded - tenth;
        hill.yielded += yielded;
        its.clear(isBurnt);
        return yielded;
    }

    public int cut(int field) throws IndexOutOfBoundsException, IllegalStateException {
        Field its = ripeFieldAt(field);
        int luck = Math.floorMod(7 * hill.day + 13 * its.number + 5 * hill.cuts, 21);
        int told = its.crop.ripeYield() * (90 + luck) / 100;
        its.crop.learn(told);
        hill.cuts++;
        return told;
    }

    public int day(int flow, int warmth, int rain) throws IllegalArgumentException {
        if (!isWithin(flow, 0, 200) || !isWithin(warmth, 0, 40) || !isWithin(rain, 0, 30)) {
            throw new IllegalArgumentException("flow, warmth or rain out of range");
        }
        hill.passDay(flow, warmth, rain);
        return hill.day;
    }

    // ---- law

    public int inspect(int society) throws IndexOutOfBoundsException {
        return societyAt(society).fineStones();
    }

    public int sell(int field, int rice)
            throws IndexOutOfBoundsException, IllegalArgumentException, IllegalStateException {
        Owner its = fieldAt(field).owner;
        if (rice < 1) {
            throw new IllegalArgumentException("less than 1 can't be sold");
        }
        if (its.rice < rice) {
            throw new IllegalStateException("there is less rice");
        }
        its.rice -= rice;
        its.coins += rice;
        return its.coins;
    }

    public int vote(int society) throws IndexOutOfBoundsException {
        Society its = societyAt(society);
        Society model = hill.modelOf(society);
        int yes = its.countYes(model);
        if (model != null && 2 * yes > its.fields.size()) {
            its.from = model.from;
            its.days = model.days;
        }
        its.crop = 0;
        return yes;
    }

    // ---- what is asked

    public int ofField(int field, int what)
            throws IndexOutOfBoundsException, IllegalArgumentException {
        Field its = fieldAt(field);
        switch (what) {
            case 0: return its.society.number;
            case 1: return its.water;
            case 2: return its.cracks;
            case 3: return its.dry;
            case 4: return its.crop.stage;
            case 5: return its.crop.kind;
            case 6: return its.crop.sum;
            case 7: return its.crop.vigour;
            case 8: return its.pests;
            case 9: return its.crop.nitrogen;
            case 10: return its.crop.ripeYield();
            case 11: return its.crop.help;
            case 12: return its.got;
            case 13: return oneIf(its.isOpen);
            default: throw new IllegalArgumentException("what is not 0 to 13");
        }
    }

    public int ofOwner(int field, int what)
            throws IndexOutOfBoundsException, IllegalArgumentException {
        Owner its = fieldAt(field).owner;
        switch (what) {
            case 0: return its.coins;
            case 1: return its.account;
            case 2: return its.rice;
            case 3: return oneIf(its.isExcluded());
            default: throw new IllegalArgumentException("what is not 0 to 3");
        }
    }

    public int ofSociety(int society, int what)
            throws IndexOutOfBoundsException, IllegalArgumentException {
        Society its = societyAt(society);
        switch (what) {
            case 0: return its.from;
            case 1: return its.days;
            case 2: return its.chest;
            case 3: return its.left;
            case 4: return oneIf(its.isOpenOn(hill.templeDay()));
            case 5: return its.crop;
            case 6: return its.fields.size();
            case 7: return its.gotAtWeir;
            case 8: return numberOf(its.nextInTurn());
            default: throw new IllegalArgumentException("what is not 0 to 8");
        }
    }

    public int water(int what) throws IllegalArgumentException {
        switch (what) {
            case 0: return hill.ledger.came;
            case 1: return sumOfFields(FIELD_WATER);
            case 2: return hill.rest;
            case 3: return sumOfSocieties(SOCIETY_LEFT);
            case 4: return hill.ledger.sank;
            case 5: return hill.ledger.drunk;
            case 6: return hill.ledger.ranOut;
            default: throw new IllegalArgumentException("what is not 0 to 6");
        }
    }

    public boolean isClosed() {
        int stands = sumOfFields(FIELD_WATER) + hill.rest + sumOfSocieties(SOCIETY_LEFT);
        return hill.ledger.came == stands + hill.ledger.sumOfGone();
    }

    public int thought(int field, boolean isMost) throws IndexOutOfBoundsException {
        Crop its = fieldAt(field).crop;
        return isMost ? its.mostThought : its.leastThought;
    }

    public int many(int what) throws IllegalArgumentException {
        switch (what) {
            case 0: return hill.societies.size();
            case 1: return hill.fields.size();
            case 2: return hill.day;
            case 3: return hill.templeDay();
            case 4: return oneIf(hill.isDark());
            case 5: return sumOfFields(FIELD_PESTS);
            case 6: return sumOfOwners(OWNER_COINS);
            case 7: return sumOfSocieties(SOCIETY_CHEST);
            case 8: return sumOfOwners(OWNER_EXCLUDED);
            case 9: return hill.cuts;
            case 10: return hill.yielded;
            case 11: return sumOfStones();
            default: throw new IllegalArgumentException("what is not 0 to 11");
        }
    }

    public double meanDepth(int society) throws IndexOutOfBoundsException {
        return societyAt(society).meanWater();
    }

    public int suspect(int society) throws IndexOutOfBoundsException {
        return numberOf(societyAt(society).mostAboveNotch());
    }

    // ---- what would be (nothing is changed; days as the last one was)

    public int wouldYield(int field, int days)
            throws IndexOutOfBoundsException, IllegalArgumentException {
        fieldAt(field);
        checkDays(days, 40);
        tryDays(days);
        return trial.yieldOf(field);
    }

    public int ripeIn(int days) throws IllegalArgumentException {
        checkDays(days, 40);
        trial.copyFrom(hill);
        // A trial harvests nothing, so what is ripe stays so, and one more is a new one.
        int ripeNow = hill.countRipe();
        for (int passed = 1; passed <= days; passed++) {
            trial.passDay(hill.lastFlow, hill.lastWarmth, hill.lastRain);
            if (trial.countRipe() > ripeNow) {
                return passed;
            }
        }
        return NONE;
    }

    public int plan(int kind, int days) throws IllegalArgumentException {
        checkKind(kind);
        checkDays(days, 30);
        int plans = 1;
        for (int s = 0; s < hill.societies.size(); s++) {
            plans *= PUT_OFFS;
        }
        int best = 0;
        int mostYield = NONE;
        for (int tried = 0; tried < plans; tried++) {
            int yielded = yieldByPlan(tried, kind, days);
            if (yielded > mostYield) {
                mostYield = yielded;
                best = tried;
            }
        }
        return best;
    }

    public long digest() {
        long d = DIGEST_START;
        for (int what = 0; what <= 11; what++) {
            d = mix(d, many(what));
        }
        for (int what = 0; what <= 6; what++) {
            d = mix(d, water(what));
        }
        d = mix(d, oneIf(isClosed()));
        for (int s = 0; s < hill.societies.size(); s++) {
            d = mixSociety(d, s);
        }
        // One trial serves all fields; what else is asked of a field leaves it alone.
        tryDays(DIGEST_YIELD_DAYS);
        for (int f = 0; f < hill.fields.size(); f++) {
            d = mixField(d, f);
        }
        d = mix(d, ripeIn(DIGEST_RIPE_DAYS));
        return mix(d, plan(0, DIGEST_PLAN_DAYS));
    }

    // ---- helpers of the face

    private Society societyAt(int number) {
        if (number < 0 || number >= hill.societies.size()) {
            throw new IndexOutOfBoundsException("there is no such society");
        }
        return hill.societies.get(number);
    }

    private Field fieldAt(int number) {
        if (number < 0 || number >= hill.fields.size()) {
            throw new IndexOutOfBoundsException("there is no such field");
        }
        return hill.fields.get(number);
    }

    private Field ripeFieldAt(int number) {
        Field its = fieldAt(number);
        if (its.crop.stage != RIPE) {
            throw new IllegalStateException("it is not ripe");
        }
        return its;
    }

    private static void checkKind(int kind) {
        if (!isWithin(kind, 0, 2)) {
            throw new IllegalArgumentException("there is no such kind");
        }
    }

    private static void checkDays(int days, int most) {
        if (!isWithin(days, 1, most)) {
            throw new IllegalArgumentException("days out of range");
        }
    }

    private int sumOfFields(int what) {
        int sum = 0;
        for (int f = 0; f < hill.fields.size(); f++) {
            sum += ofField(f, what);
        }
        return sum;
    }

    private int sumOfOwners(int what) {
        int sum = 0;
        for (int f = 0; f < hill.fields.size(); f++) {
            sum += ofOwner(f, what);
        }
        return sum;
    }

    private int sumOfSocieties(int what) {
        int sum = 0;
        for (int s = 0; s < hill.societies.size(); s++) {
            sum += ofSociety(s, what);
        }
        return sum;
    }

    private int sumOfStones() {
        int sum = 0;
        for (int f = 0; f < hill.fields.size(); f++) {
            sum += hill.fields.get(f).stones;
        }
        return sum;
    }

    private void tryDays(int days) {
        trial.copyFrom(hill);
        for (int passed = 0; passed < days; passed++) {
            trial.passDay(hill.lastFlow, hill.lastWarmth, hill.lastRain);
        }
    }

    private int yieldByPlan(int tried, int kind, int days) {
        trial.copyFrom(hill);
        for (int passed = 0; passed < days; passed++) {
            trial.plantByPlan(tried, kind, passed);
            trial.passDay(hill.lastFlow, hill.lastWarmth, hill.lastRain);
        }
        return trial.sumOfYields();
    }

    private long mixSociety(long d, int society) {
        long mixed = d;
        for (int what = 0; what <= 8; what++) {
            mixed = mix(mixed, ofSociety(society, what));
        }
        return mix(mixed, suspect(society));
    }

    private long mixField(long d, int field) {
        long mixed = d;
        for (int what = 0; what <= 13; what++) {
            mixed = mix(mixed, ofField(field, what));
        }
        for (int what = 0; what <= 3; what++) {
            mixed = mix(mixed, ofOwner(field, what));
        }
        mixed = mix(mixed, thought(field, false));
        mixed = mix(mixed, thought(field, true));
        return mix(mixed, trial.yieldOf(field));
    }

    private static long mix(long d, int value) {
        return d * 31L + value;
    }

    private static int oneIf(boolean is) {
        return is ? 1 : 0;
    }

    private static int numberOf(Field its) {
        return its == null ? NONE : its.number;
    }

    private static boolean isWithin(int value, int least, int most) {
        return value >= least && value <= most;
    }

    private static boolean isOnTheStalk(int stage) {
        return stage >= GROWING && stage <= RIPENING;
    }

    // A kind may be NONE; no row is asked then, but the machine must not throw if one were.
    private static int inRow(int[] row, int index) {
        return index >= 0 && index < row.length ? row[index] : 0;
    }

    // Apart from the hill, as societies and fields book here what leaves them.
    private static final class Ledger {
        int came;
        int sank;
        int drunk;
        int ranOut;

        int sumOfGone() {
            return sank + drunk + ranOut;
        }
    }

    private static final class Owner {
        int coins = 20;
        int account;
        int rice;

        boolean isExcluded() {
            return coins < 0;
        }
    }

    // Apart from the field, whose water and pests go on whatever grows there.
    private static final class Crop {
        int stage = FALLOW;
        int kind = NONE;
        int sum;
        int vigour;
        int nitrogen = 20;
        int help;
        int leastThought;
        int mostThought = MOST_THOUGHT;

        void begin(int kindPlanted) {
            stage = GROWING;
            kind = kindPlanted;
            sum = 0;
            vigour = 100;
            help = 0;
            leastThought = 0;
            mostThought = MOST_THOUGHT;
        }

        // What was thought of the yield outlives the harvest.
        void end() {
            stage = FALLOW;
            kind = NONE;
            sum = 0;
            vigour = 0;
        }

        int thirst() {
            return isOnTheStalk(stage) ? 2 : 1;
        }

        void grow(int water, int pests, int warmth) {
            if (!isOnTheStalk(stage)) {
                return;
            }
            suffer(water, pests);
            sum += warmth;
            ripen();
            if (isOnTheStalk(stage) && nitrogen > 0) {
                nitrogen--;
            }
        }

        void suffer(int water, int pests) {
            int hurt = pests / 20;
            if (water < DROUGHT_BELOW) {
                hurt += inRow(HURT_BY_DROUGHT, stage);
            } else if (water > FLOOD_ABOVE) {
                hurt += inRow(HURT_BY_FLOOD, stage);
            }
            vigour = Math.max(0, vigour - hurt);
        }

        void ripen() {
            if (sum >= inRow(RIPE_AT, kind)) {
                stage = RIPE;
            } else if (sum >= inRow(RIPENS_AT, kind)) {
                stage = RIPENING;
            } else if (sum >= inRow(FLOWERS_AT, kind)) {
                stage = FLOWERING;
            }
        }

        int ripeYield() {
            if (stage != RIPE) {
                return 0;
            }
            int byVigour = inRow(BEST_YIELD, kind) * vigour / 100;
            return byVigour * (50 + nitrogen) / 100;
        }

        void learn(int told) {
            int least = (100 * told + 109) / 110;
            int most = (100 * (told + 1) - 1) / 90;
            leastThought = Math.max(leastThought, least);
            mostThought = Math.min(mostThought, most);
        }

        void copyFrom(Crop other) {
            stage = other.stage;
            kind = other.kind;
            sum = other.sum;
            vigour = other.vigour;
            nitrogen = other.nitrogen;
        }
    }

    private static final class Field {
        final int number;
        final Society society;
        final int notch;
        final int bund;
        final Owner owner = new Owner();
        final Crop crop = new Crop();
        Field below;
        int stones;
        boolean isOpen;
        int water;
        int cracks;
        int dry;
        int pests;
        boolean hasDucks;
        int got;
        int arriving;
        int flying;

        Field(int number, Society society, int notch, int bund) {
            this.number = number;
            this.society = society;
            this.notch = notch;
            this.bund = bund;
        }

        boolean takesWater() {
            return isOpen && owner.coins >= 0;
        }

        int part() {
            return notch + stones;
        }

        void clear(boolean isBurnt) {
            crop.end();
            if (isBurnt) {
                pests /= 2;
            } else {
                crop.nitrogen = Math.min(MOST_NITROGEN, crop.nitrogen + STRAW_NITROGEN);
            }
        }

        void passWater(int rain, Ledger ledger) {
            water += got + rain + arriving;
            arriving = 0;
            int spilt = Math.max(0, water - bund);
            water -= spilt;
            int seeped = Math.min(1 + cracks, water);
            water -= seeped;
            int seepedBelow = seeped / 2;
            ledger.sank += seeped - seepedBelow;
            sendBelow(spilt + seepedBelow, ledger);
            int drunk = Math.min(crop.thirst(), water);
            water -= drunk;
            ledger.drunk += drunk;
        }

        void sendBelow(int sent, Ledger ledger) {
            if (below == null) {
                ledger.ranOut += sent;
            } else {
                below.arriving += sent;
            }
        }

        void dryOut() {
            if (water > 0) {
                dry = 0;
                return;
            }
            dry++;
            if (dry % 3 == 0) {
                cracks = Math.min(MOST_CRACKS, cracks + 1);
            }
        }

        void breedPests() {
            if (isOnTheStalk(crop.stage)) {
                pests += 1 + pests / 4;
            } else if (crop.stage != RIPE) {
                pests /= 2;
            }
            if (hasDucks) {
                pests -= PESTS_EATEN;
            }
            pests = Math.max(0, Math.min(MOST_PESTS, pests));
        }

        void settlePests() {
            pests = Math.min(MOST_PESTS, pests + flying);
            flying = 0;
        }

        void copyFrom(Field other) {
            stones = other.stones;
            isOpen = other.isOpen;
            water = other.water;
            cracks = other.cracks;
            dry = other.dry;
            pests = other.pests;
            hasDucks = other.hasDucks;
            owner.coins = other.owner.coins;
            crop.copyFrom(other.crop);
        }
    }

    private static final class Society {
        final int number;
        final int notches;
        final int loss;
        final ArrayList<Field> fields = new ArrayList<Field>();
        int from;
        int days;
        int chest;
        int left;
        int crop;
        int gotAtWeir;
        boolean isRotating;
        int lastInTurn = NONE;

        Society(int number, int notches, int loss, int from, int days) {
            this.number = number;
            this.notches = notches;
            this.loss = loss;
            this.from = from;
            this.days = days;
        }

        void take(Field made) {
            if (!fields.isEmpty()) {
                fields.get(fields.size() - 1).below = made;
            }
            fields.add(made);
        }

        boolean isOpenOn(int templeDay) {
            return Math.floorMod(templeDay - from, TEMPLE_YEAR) < days;
        }

        void shareOut(int templeDay, Ledger ledger) {
            for (int i = 0; i < fields.size(); i++) {
                fields.get(i).got = 0;
            }
            int sunk = gotAtWeir * loss / 100;
            ledger.sank += sunk;
            int there = gotAtWeir - sunk + left;
            left = 0;
            if (!isOpenOn(templeDay)) {
                ledger.ranOut += there;
            } else if (isRotating) {
                giveInTurn(nextInTurn(), there, ledger);
            } else {
                giveByNotch(there, ledger);
            }
        }

        void giveInTurn(Field next, int there, Ledger ledger) {
            if (next == null) {
                ledger.ranOut += there;
                return;
            }
            next.got = there;
            lastInTurn = next.number;
        }

        Field nextInTurn() {
            Field first = null;
            for (int i = 0; i < fields.size(); i++) {
                Field its = fields.get(i);
                if (!its.takesWater()) {
                    continue;
                }
                if (its.number > lastInTurn) {
                    return its;
                }
                if (first == null) {
                    first = its;
                }
            }
            return first;
        }

        void giveByNotch(int there, Ledger ledger) {
            int parts = 0;
            for (int i = 0; i < fields.size(); i++) {
                Field its = fields.get(i);
                parts += its.takesWater() ? its.part() : 0;
            }
            if (parts <= 0) {
                ledger.ranOut += there;
                return;
            }
            left = there;
            for (int i = 0; i < fields.size(); i++) {
                Field its = fields.get(i);
                if (its.takesWater()) {
                    its.got = there * its.part() / parts;
                    left -= its.got;
                }
            }
        }

        Field mostAboveNotch() {
            int gotByAll = 0;
            int notchesOfAll = 0;
            for (int i = 0; i < fields.size(); i++) {
                Field its = fields.get(i);
                if (its.got > 0) {
                    gotByAll += its.got;
                    notchesOfAll += its.notch;
                }
            }
            if (notchesOfAll <= 0) {
                return null;
            }
            Field found = null;
            int most = 0;
            for (int i = 0; i < fields.size(); i++) {
                Field its = fields.get(i);
                int above = its.got - gotByAll * its.notch / notchesOfAll;
                if (above > most) {
                    most = above;
                    found = its;
                }
            }
            return found;
        }

        double meanWater() {
            int sum = 0;
            for (int i = 0; i < fields.size(); i++) {
                sum += fields.get(i).water;
            }
            int count = fields.size();
            return count == 0 ? 0.0 : (double) sum / (double) count;
        }

        int fineStones() {
            int paid = 0;
            for (int i = 0; i < fields.size(); i++) {
                Field its = fields.get(i);
                int fine = FINE * its.stones;
                its.owner.coins -= fine;
                its.stones = 0;
                paid += fine;
            }
            chest += paid;
            return paid;
        }

        int cropPerField() {
            int count = fields.size();
            return count == 0 ? 0 : crop / count;
        }

        int countYes(Society model) {
            boolean isOutdone = model != null && model.cropPerField() > cropPerField();
            int yes = 0;
            for (int i = 0; i < fields.size(); i++) {
                if (isOutdone || fields.get(i).pests > PESTS_ALARM_ABOVE) {
                    yes++;
                }
            }
            return yes;
        }

        void plantAll(int kind) {
            for (int i = 0; i < fields.size(); i++) {
                Field its = fields.get(i);
                if (its.crop.stage == FALLOW || its.crop.stage == PUDDLED) {
                    its.crop.begin(kind);
                    its.cracks = 0;
                }
            }
        }

        void copyFrom(Society other) {
            from = other.from;
            days = other.days;
            left = other.left;
            isRotating = other.isRotating;
            lastInTurn = other.lastInTurn;
        }
    }

    private static final class Hill {
        final ArrayList<Society> societies = new ArrayList<Society>();
        final ArrayList<Field> fields = new ArrayList<Field>();
        final Ledger ledger = new Ledger();
        int day;
        int rest;
        int cuts;
        int yielded;
        int lastFlow;
        int lastWarmth;
        int lastRain;

        int addSociety(int notches, int loss, int from, int days) {
            Society made = new Society(societies.size(), notches, loss, from, days);
            societies.add(made);
            return made.number;
        }

        int addField(int society, int notch, int bund) {
            if (society < 0 || society >= societies.size()) {
                return NONE;
            }
            Society its = societies.get(society);
            Field made = new Field(fields.size(), its, notch, bund);
            its.take(made);
            fields.add(made);
            return made.number;
        }

        int templeDay() {
            return Math.floorMod(day, TEMPLE_YEAR);
        }

        boolean isDark() {
            return day % DARK_EVERY == 0;
        }

        void passDay(int flow, int warmth, int rain) {
            day++;
            lastFlow = flow;
            lastWarmth = warmth;
            lastRain = rain;
            ledger.came += flow + rain * fields.size();
            splitAtWeir(flow);
            int templeDay = templeDay();
            for (int s = 0; s < societies.size(); s++) {
                societies.get(s).shareOut(templeDay, ledger);
            }
            for (int f = 0; f < fields.size(); f++) {
                Field its = fields.get(f);
                its.passWater(rain, ledger);
                its.dryOut();
                its.crop.grow(its.water, its.pests, warmth);
                its.breedPests();
            }
            flyPests();
        }

        void splitAtWeir(int flow) {
            int there = flow + rest;
            int notches = 0;
            for (int s = 0; s < societies.size(); s++) {
                notches += societies.get(s).notches;
            }
            rest = there;
            if (notches <= 0) {
                return;
            }
            for (int s = 0; s < societies.size(); s++) {
                Society its = societies.get(s);
                its.gotAtWeir = there * its.notches / notches;
                rest -= its.gotAtWeir;
            }
        }

        void flyPests() {
            for (int f = 0; f < fields.size(); f++) {
                Field its = fields.get(f);
                if (its.pests > PESTS_FLY_ABOVE) {
                    flyFrom(its, nearestOnTheStalk(f, -1));
                    flyFrom(its, nearestOnTheStalk(f, 1));
                }
            }
            // Settled only now: all fly at once, by what there was ahead of it.
            for (int f = 0; f < fields.size(); f++) {
                fields.get(f).settlePests();
            }
        }

        void flyFrom(Field its, Field goal) {
            if (goal == null) {
                return;
            }
            int fifth = its.pests / 5;
            its.flying -= fifth;
            goal.flying += fifth;
        }

        Field nearestOnTheStalk(int start, int step) {
            int at = start + step;
            for (int looked = 0; looked < fields.size(); looked++) {
                if (at < 0 || at >= fields.size()) {
                    return null;
                }
                Field its = fields.get(at);
                if (isOnTheStalk(its.crop.stage)) {
                    return its;
                }
                at += step;
            }
            return null;
        }

        Society modelOf(int number) {
            Society less = societyOrNull(number - 1);
            Society more = societyOrNull(number + 1);
            if (less == null) {
                return more;
            }
            if (more == null) {
                return less;
            }
            return more.cropPerField() > less.cropPerField() ? more : less;
        }

        Society societyOrNull(int number) {
            return number >= 0 && number < societies.size() ? societies.get(number) : null;
        }

        void plantByPlan(int tried, int kind, int passed) {
            int plansLeft = tried;
            for (int s = 0; s < societies.size(); s++) {
                if (plansLeft % PUT_OFFS * PUT_OFF_DAYS == passed) {
                    societies.get(s).plantAll(kind);
                }
                plansLeft /= PUT_OFFS;
            }
        }

        int yieldOf(int field) {
            return field >= 0 && field < fields.size() ? fields.get(field).crop.ripeYield() : 0;
        }

        int sumOfYields() {
            int sum = 0;
            for (int f = 0; f < fields.size(); f++) {
                sum += fields.get(f).crop.ripeYield();
            }
            return sum;
        }

        int countRipe() {
            int count = 0;
            for (int f = 0; f < fields.size(); f++) {
                count += fields.get(f).crop.stage == RIPE ? 1 : 0;
            }
            return count;
        }

        // Here and below only what a day goes by: a trial is asked for its stages and yields alone.
        void copyFrom(Hill other) {
            day = other.day;
            rest = other.rest;
            for (int s = 0; s < societies.size() && s < other.societies.size(); s++) {
                societies.get(s).copyFrom(other.societies.get(s));
            }
            for (int f = 0; f < fields.size() && f < other.fields.size(); f++) {
                fields.get(f).copyFrom(other.fields.get(f));
            }
        }
    }
}
