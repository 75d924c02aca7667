/**
 * A hill on which nothing is as it was at first, on the DAY 18. Of its FIELDS 0 and 4 are RIPE and
 * were CUT, 1 is PUDDLED, 2 FALLOW, 3 and 6 are GROWING, 5 and 7 are DRY and cracked. Each SOCIETY
 * had its turns, and 1 ROTATES yet.
 */
final class Motley {
    static final int FLOW = 12;
    static final int WARMTH = 30;
    static final int RAIN = 2;
    static final int FIELDS = 8;

    private Motley() {
    }

    static Subakhall hill(int societies) {
        Subakhall x = new Subakhall();
        int[][] told = {{3, 10, 0, 210}, {2, 20, 205, 100}, {4, 5, 5, 60}};
        for (int s = 0; s < societies; s++) {
            x.society(told[s][0], told[s][1], told[s][2], told[s][3]);
        }
        int[] bunds = {20, 20, 28, 28, 26, 5, 28, 5};
        for (int f = 0; f < FIELDS; f++) {
            x.field(f % societies, 1 + f % 4, bunds[f]);
        }
        firstHarvest(x);
        x.puddle(3);
        plant(x, 3, 2);
        x.puddle(6);
        plant(x, 6, 1);
        x.ducks(3, true);
        inTurns(x, societies);
        for (int i = 0; i < 7; i++) {
            x.day(9, 0, 0);
        }
        stones(x);
        x.inspect(0);
        x.inspect(1);
        x.inspect(2 % societies);
        stones(x);
        for (int f : new int[] {0, 1, 4, 4}) {
            x.cut(f);
        }
        x.gate(2, true);
        x.gate(4, false);
        x.day(FLOW, WARMTH, RAIN);
        lastWork(x);
        return x;
    }

    private static void plant(Subakhall x, int field, int kind) {
        x.help(5, field);
        x.help(5, field);
        x.help(7, field);
        x.plant(field, kind);
    }

    /** DAY 9: 4 was HARVESTED, and RIPE once more as 0, 1 and 2 are for the first time. */
    private static void firstHarvest(Subakhall x) {
        x.day(0, 0, 30);
        x.puddle(4);
        plant(x, 4, 0);
        for (int warmth : new int[] {40, 40, 40, 30}) {
            x.day(0, warmth, 5);
        }
        x.harvest(4, false);
        for (int f : new int[] {0, 1, 2, 4}) {
            x.puddle(f);
            plant(x, f, 0);
        }
        for (int warmth : new int[] {40, 40, 40, 30}) {
            x.day(0, warmth, 7);
        }
    }

    /** DAY 10: each SOCIETY ROTATES, and its first FIELD has the first turn. */
    private static void inTurns(Subakhall x, int societies) {
        Hills.open(x, 0, 1, 2, 3, 4);
        for (int s = 0; s < societies; s++) {
            x.rotate(s, true);
        }
        x.day(40, 0, 8);
        x.rotate(0, false);
        x.rotate(2 % societies, false);
        x.gate(2, false);
    }

    private static void stones(Subakhall x) {
        x.stones(0, 1);
        x.stones(1, 1);
        x.stones(2, 4);
        x.stones(3, 2);
        x.stones(4, 3);
    }

    private static void lastWork(Subakhall x) {
        x.gate(5, true);
        x.harvest(1, false);
        x.harvest(2, false);
        x.sell(1, 2);
        x.sell(2, 3);
        x.puddle(1);
        x.ducks(1, true);
        x.ducks(2, true);
        x.ducks(4, true);
        for (int f = 0; f < FIELDS; f++) {
            for (int i = 0; i < 4 + f % 2; i++) {
                x.help((f + 3) % FIELDS, f);
            }
        }
    }
}
