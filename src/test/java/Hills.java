import java.util.ArrayDeque;
import java.util.ArrayList;
import java.util.Arrays;
import java.util.List;

/**
 * Hills that stand ahead of an edge, made by calls alone. Their SOCIETIES have a NOTCH, no LOSS, and
 * a WINDOW that is always open. With a BUND of 20 a RAIN of 5 neither floods nor dries a FIELD: each
 * day ends 17 deep on the stalk, and 18 deep otherwise.
 */
final class Hills {
    static final int BUND = 20;
    static final int RAIN = 5;

    private Hills() {
    }

    /** FIELDS with shut GATES, each with the SOCIETY that is named. */
    static Subakhall of(int societies, int bund, int... societyOfField) {
        Subakhall x = new Subakhall();
        for (int s = 0; s < societies; s++) {
            x.society(1, 0, 0, 210);
        }
        for (int society : societyOfField) {
            x.field(society, 1, bund);
        }
        return x;
    }

    /** DAY 1, all 18 deep, and PUDDLED. */
    static Subakhall puddled(int societies, int... societyOfField) {
        Subakhall x = of(societies, BUND, societyOfField);
        x.day(0, 0, 30);
        for (int f = 0; f < societyOfField.length; f++) {
            x.puddle(f);
        }
        return x;
    }

    /** DAY 1, all 18 deep, and planted with that KIND. */
    static Subakhall growing(int kind, int fields) {
        Subakhall x = puddled(1, new int[fields]);
        for (int f = 0; f < fields; f++) {
            Check.helpAndPlant(x, f, kind);
        }
        return x;
    }

    static void open(Subakhall x, int... fields) {
        for (int f : fields) {
            x.gate(f, true);
        }
    }

    static void shut(Subakhall x, int... fields) {
        for (int f : fields) {
            x.gate(f, false);
        }
    }

    static void rain(Subakhall x, int... warmths) {
        for (int warmth : warmths) {
            x.day(0, warmth, RAIN);
        }
    }

    static void dry(Subakhall x, int days) {
        for (int i = 0; i < days; i++) {
            x.day(0, 0, 0);
        }
    }

    /** Rainy days without WARMTH, with DUCKS or none, till a FIELD on the stalk has that many PESTS. */
    static void breed(Subakhall x, int field, int want) {
        for (boolean withDucks : wayFrom(x.ofField(field, 8), want)) {
            x.ducks(field, withDucks);
            rain(x, 0);
        }
        x.ducks(field, false);
    }

    private static List<Boolean> wayFrom(int start, int want) {
        int[] cameFrom = new int[100];
        Arrays.fill(cameFrom, -1);
        cameFrom[start] = start;
        ArrayDeque<Integer> open = new ArrayDeque<>(List.of(start));
        while (!open.isEmpty() && cameFrom[want] < 0) {
            int pests = open.remove();
            for (boolean withDucks : new boolean[] {false, true}) {
                int then = bred(pests, withDucks);
                if (cameFrom[then] < 0) {
                    cameFrom[then] = pests;
                    open.add(then);
                }
            }
        }
        List<Boolean> way = new ArrayList<>();
        for (int pests = want; pests != start; pests = cameFrom[pests]) {
            way.add(0, bred(cameFrom[pests], false) != pests);
        }
        return way;
    }

    private static int bred(int pests, boolean withDucks) {
        return Math.max(0, Math.min(99, pests + 1 + pests / 4 - (withDucks ? 4 : 0)));
    }

    /** From KIND 0 just planted: the STAGES 2 to 5 on rainy days. */
    static void ripen(Subakhall x, int stage) {
        int[][] warmths = {{}, {40, 20}, {40, 20, 40}, {40, 40, 40, 30}};
        rain(x, warmths[stage - 2]);
    }

    /** A RIPE one of KIND 0 that has that many PESTS, which it bred a DAY ahead of that. */
    static Subakhall ripeWith(int pests) {
        Subakhall x = growing(0, 1);
        x.ducks(0, true);
        rain(x, 40, 40, 40, 29);
        breed(x, 0, pests);
        rain(x, 1);
        return x;
    }

    /** One FIELD of BUND 60 with an open GATE, in that STAGE, of KIND 0 from the STAGE 2 on, without PESTS. */
    static Subakhall inStage(int stage) {
        Subakhall x = Check.oneField(60);
        x.day(20, 0, 0);
        if (stage >= 1) {
            x.puddle(0);
        }
        if (stage >= 2) {
            Check.helpAndPlant(x, 0, 0);
            x.ducks(0, true);
            int[][] warmths = {{}, {40, 20}, {40, 20, 40}, {40, 20, 40, 40, 10}};
            for (int warmth : warmths[stage - 2]) {
                x.day(3, warmth, 0);
            }
        }
        return x;
    }
}
