/** The foundries that the tests of edges begin with. */
abstract class Foundries extends Edges {
    /** Forgets the changes, so that the next one shows in their number. */
    static BellCores settled(BellCores x) {
        x.save();
        x.restore();
        return x;
    }

    /** A heat of up to 1400, in steps of 5, and pounds up to 2000; no change can be undone. */
    static BellCores foundry(int heat, int pounds) {
        BellCores x = new BellCores();
        x.coal(20);
        x.coal(20);
        x.coal(6);
        letHoursGoBy(x, (1400 - heat) / 5);
        bringPounds(x, pounds);
        return settled(x);
    }

    static void letHoursGoBy(BellCores x, int hours) {
        for (int left = hours; left > 0; left -= 48) {
            x.pass(Math.min(48, left));
        }
    }

    static void bringPounds(BellCores x, int pounds) {
        for (int left = pounds; left > 0; left -= 500) {
            x.bronze(Math.min(500, left));
        }
    }

    static BellCores hot() {
        return foundry(1400, 2000);
    }

    /** A heat of up to 1388, to the point: the pour of a first bell, which stays on rack 0, takes what is odd. */
    static BellCores exactly(int heat, int pounds, int... cores) {
        int core = 10 + (1388 - heat) % 5;
        BellCores x = foundry(1400, 5 * core + 10);
        x.rack(9);
        cast(x, core, 4, 0);
        letHoursGoBy(x, (1398 - core - heat) / 5);
        bringPounds(x, pounds);
        return withMoulds(x, cores);
    }

    static BellCores withMoulds(BellCores x, int... cores) {
        for (int core : cores) {
            x.mould(core, 0);
        }
        return settled(x);
    }

    static BellCores withRacks(BellCores x, int... draughts) {
        for (int draught : draughts) {
            x.rack(draught);
        }
        return settled(x);
    }

    /** Makes a mould and pours it at once; the number of the bell. */
    static int cast(BellCores x, int core, int sand, int rack) {
        return x.pour(x.mould(core, sand), rack);
    }

    /** Sound bells in the hall: sand 4 stands the 13 that a lone bell on a rack of draught 9 loses. */
    static BellCores hallOf(int... cores) {
        BellCores x = withRacks(hot(), 9);
        for (int core : cores) {
            int bell = cast(x, core, 4, 0);
            x.pass(10);
            x.take(bell);
            x.coal(5);
        }
        return settled(x);
    }

    /** A bell in the hall with the core 60 and so many cracks, and two sound ones of the core 10, cold, on rack 0. */
    static BellCores cracked(int cracks) {
        BellCores x = withRacks(hot(), 3, 2);
        cast(x, 60, 0, 0);
        letHoursGoBy(x, cracks);
        cast(x, 10, 4, 0);
        cast(x, 10, 4, 0);
        x.pass(48);
        x.take(0);
        return settled(x);
    }

    /** One bell of the core 60 on rack 0, with this draught. */
    static BellCores lone(int draught, int sand) {
        BellCores x = withRacks(hot(), draught);
        cast(x, 60, sand, 0);
        return settled(x);
    }

    /** Four racks with the draught 1, and three bells of the core 10 on each. */
    static BellCores twelve(int pounds) {
        BellCores x = withRacks(foundry(1400, pounds), 1, 1, 1, 1);
        for (int bell = 0; bell < 12; bell++) {
            cast(x, 10, 4, bell / 3);
        }
        return settled(x);
    }

    /** The same, cold, and these in the hall. */
    static BellCores twelveCold(int... inHall) {
        BellCores x = twelve(2000);
        x.pass(20);
        for (int bell : inHall) {
            x.take(bell);
        }
        return settled(x);
    }

    static BellCores eightMoulds() {
        return withMoulds(hot(), 10, 20, 30, 40, 50, 60, 11, 12);
    }

    static BellCores fourRacks() {
        return withRacks(hot(), 1, 4, 6, 9);
    }

    /** A bell with 2 cracks in the hall, two cold ones on rack 0, rack 1 without bells, and a mould for it. */
    static BellCores readyForAll() {
        BellCores x = cracked(2);
        x.coal(10);
        x.mould(10, 1);
        return settled(x);
    }

    static void coalTimes(BellCores x, int times) {
        for (int i = 0; i < times; i++) {
            x.coal(1);
        }
    }

    static void duePeal(BellCores x, int note, int want) {
        due("peal(" + note + ", false)", want, () -> x.peal(note, false));
        due("peal(" + note + ", true)", want, () -> x.peal(note, true));
    }

    static void duePourable(String what, BellCores x, int best, int hottest) {
        due(what + ", the best way", best, () -> x.pourable(true));
        due(what + ", the hottest way", hottest, () -> x.pourable(false));
    }

    static void undoAll(BellCores x, int changes) {
        undoAll(x, changes, changes);
    }

    static void undoAll(BellCores x, int times, int changes) {
        for (int i = 1; i <= times; i++) {
            due("undo " + i, changes - i, x::undo);
        }
    }
}
