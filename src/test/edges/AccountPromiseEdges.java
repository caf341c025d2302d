/** Promises 32 to 38: accounts, undo and snapshot. */
final class AccountPromiseEdges extends Foundries {
    private static void edgesOfAccounts() {
        edge(32, wrongArgument("what is not from 0 to 15"), "both ends", () ->
            range(Foundries::readyForAll, 0, 15, (x, n) -> x.account(n)));
        edge(32, "Returns an account.", "nothing, and all that is full", () -> {
            due("of a new one", "20 0 0 0 0 0 0 0 0 0 0 0 0 0 0 0", () -> accountsOf(new BellCores()));
            BellCores x = withMoulds(twelve(2000), 10, 10, 10, 10, 10, 10, 10, 10);
            bringPounds(x, 720);
            letHoursGoBy(x, 20);
            for (int bell = 0; bell < 12; bell++) {
                x.take(bell);
            }
            type(x, "x".repeat(60));
            due("of a full one", "1156 2000 8 4 12 12 720 2720 0 46 20 0 12 12 60 8", () -> accountsOf(x));
        });
        edge(32, "5 for those in the hall, 6 for the pounds of all bells, 7 for the pounds brought so far, 8 for "
            + "those lost so far", "none in the hall, and one", () -> {
            BellCores x = lone(9, 4);
            dueAccount(x, "none in the hall", 5, 0);
            dueAccount(x, "its pounds", 6, 310);
            x.pass(10);
            x.take(0);
            dueAccount(x, "one in the hall", 5, 1);
            dueAccount(x, "its pounds still", 6, 310);
            x.recast(0);
            dueAccount(x, "none again", 5, 0);
            dueAccount(x, "no pounds", 6, 0);
            dueAccount(x, "those lost", 8, 31);
            dueAccount(x, "those brought", 7, 2000);
        });
        edge(32, "11 for the cracks of all bells, 12 for the bells poured so far, 13 for those in the hall without a "
            + "crack",
            "no crack, one and 9", () -> {
            for (int i = 0; i < 3; i++) {
                int cracks = new int[] {0, 1, 9}[i];
                BellCores x = cracked(cracks);
                dueAccount(x, "the cracks", 11, cracks);
                dueAccount(x, "the sound ones in the hall", 13, cracks == 0 ? 1 : 0);
                dueAccount(x, "the bells poured", 12, 3);
            }
            dueAccount(lone(9, 0), "a sound one on a rack", 13, 0);
        });
        edge(33, "Returns whether this is so.", "nothing, what is full, and what is at its ends", () -> {
            due("a new one", true, () -> new BellCores().isWell());
            due("a full one", true, () -> withMoulds(twelve(2000), 10, 60, 10, 60, 10, 60, 10, 60).isWell());
            due("all cracks", true, () -> cracked(9).isWell());
            BellCores high = hallOf(10);
            high.file(0, 6);
            due("all marks", true, high::isWell);
            high.recast(0);
            due("recast", true, high::isWell);
            high.undo();
            due("undone", true, high::isWell);
            due("8 of a peal", true, () -> hallOf(30, 28, 26, 25, 23, 21, 19, 18).isWell());
            BellCores ways = withMoulds(foundry(1400, 190), 10, 10, 10, 30);
            stays(ways, () -> due("ways that differ", true, ways::isWell));
        });
    }

    private static void edgesOfMeans() {
        String none = "Throws `ArithmeticException` if there are none";
        edge(34, none, "no bells, and the last one was recast", () -> {
            BellCores x = settled(new BellCores());
            throwing(x, "no bells", ARITHMETIC, x::meanNote);
            BellCores recast = hallOf(10);
            recast.recast(0);
            throwing(recast, "none any more", ARITHMETIC, recast::meanNote);
        });
        edge(34, "Returns the sum of all notes divided by the bells, both as doubles.", "one, three and 12", () -> {
            due("one", 90.0, () -> hallOf(10).meanNote());
            due("three, on a rack and in the hall", 217.0 / 3.0, () -> cracked(3).meanNote());
            due("12", 90.0, () -> twelve(2000).meanNote());
            due("the least", 31.0, () -> {
                BellCores x = lone(3, 0);
                x.pass(9);
                return x.meanNote();
            });
        });
        edge(35, none, "no bells, and the last one was recast", () -> {
            BellCores x = settled(new BellCores());
            throwing(x, "no bells", ARITHMETIC, x::soundShare);
            BellCores recast = hallOf(10);
            recast.recast(0);
            throwing(recast, "none any more", ARITHMETIC, recast::soundShare);
        });
        edge(35, "Returns how many have none divided by how many there are, both as floats.",
            "none, some and all", () -> {
            BellCores x = lone(9, 0);
            due("all", 1.0f, x::soundShare);
            x.pass(1);
            due("none", 0.0f, x::soundShare);
            due("two of three", 2.0f / 3.0f, () -> cracked(1).soundShare());
            due("12 of 12", 1.0f, () -> twelve(2000).soundShare());
        });
    }

    private static void edgesOfUndoPromise() {
        String none = "Throws `IllegalStateException` if no change can be undone";
        edge(36, none, "a new one", () -> {
            BellCores x = new BellCores();
            throwing(x, "undo", STATE, x::undo);
        });
        edge(36, none, "the only change was undone", () -> {
            BellCores x = new BellCores();
            x.coal(1);
            due("undo", 0, x::undo);
            throwing(x, "undo again", STATE, x::undo);
            dueAccount(x, "the heat", 0, 20);
        });
        edge(36, none, "all 8 were undone", () -> {
            BellCores x = new BellCores();
            coalTimes(x, 12);
            undoAll(x, 8);
            throwing(x, "the ninth undo", STATE, x::undo);
            dueAccount(x, "the loads", 9, 4);
        });
        edge(36, none, "behind restore", () -> {
            BellCores x = readyForAll();
            x.coal(1);
            x.restore();
            throwing(x, "undo", STATE, x::undo);
        });
        edge(36, "Returns the number of changes that can still be undone.", "from 8 to none", () -> {
            BellCores x = new BellCores();
            coalTimes(x, 8);
            undoAll(x, 8);
            x.coal(1);
            x.coal(1);
            due("one of two", 1, x::undo);
        });
    }

    private static void edgesOfSnapshot() {
        edge(37, "Returns the bells.", "none and 12", () -> {
            due("none", 0, () -> new BellCores().save());
            due("12", 12, () -> twelve(2000).save());
        });
        edge(37, "Takes a snapshot of what changes can change, in place of an earlier one.",
            "of nothing, and of all", () -> {
            BellCores x = new BellCores();
            x.save();
            String nothing = stateOf(x);
            bringPounds(x, 2000);
            x.coal(20);
            x.coal(20);
            x.rack(1);
            x.mould(60, 4);
            cast(x, 10, 4, 0);
            x.pass(4);
            x.take(0);
            x.recast(0);
            x.restore();
            due("nothing", nothing, () -> stateOf(x));
        });
        edge(37, "Takes a snapshot of what changes can change, in place of an earlier one.", "an earlier one", () -> {
            BellCores x = readyForAll();
            x.coal(1);
            x.recast(0);
            x.save();
            String later = stateOf(x);
            x.undo();
            x.undo();
            due("restore", 2, x::restore);
            due("the later state", later.replace("changes 2", "changes 0"), () -> stateOf(x));
        });
        edge(37, "Takes a snapshot of what changes can change, in place of an earlier one.",
            "it leaves the changes", () -> {
            BellCores x = readyForAll();
            coalTimes(x, 8);
            stays(x, () -> due("save", 3, x::save));
            undoAll(x, 8);
            dueAccount(x, "the loads", 9, 56);
        });
        edge(38, "Throws `IllegalStateException` if there is no snapshot", "a new one, and one with changes", () -> {
            BellCores x = new BellCores();
            throwing(x, "restore", STATE, x::restore);
            coalTimes(x, 3);
            throwing(x, "restore behind changes", STATE, x::restore);
            x.save();
            due("restore behind save", 0, x::restore);
        });
        String restore = "Makes everything that changes can change as it is in the snapshot, which stays.";
        edge(38, restore, "twice, with changes and without", () -> {
            BellCores x = readyForAll();
            String before = stateOf(x);
            due("at once", 3, x::restore);
            due("the state", before, () -> stateOf(x));
            for (int i = 0; i < 2; i++) {
                changeAll(x);
                due("behind changes", 3, x::restore);
                due("the state", before, () -> stateOf(x));
            }
        });
        edge(38, restore, "what is full becomes empty, and full again", () -> {
            BellCores x = withMoulds(twelve(2000), 10, 20, 30, 40, 50, 60, 11, 12);
            String full = stateOf(x);
            x.pass(20);
            for (int bell = 11; bell >= 0; bell--) {
                x.take(bell);
                x.recast(bell);
            }
            for (int left = 7; left >= 0; left--) {
                x.smash(left);
            }
            for (int left = 3; left >= 0; left--) {
                x.strike(left);
            }
            dueAccount(x, "the bells", 4, 0);
            due("restore", 12, x::restore);
            due("the state", full, () -> stateOf(x));
        });
        edge(38, "Returns the bells.", "none and 12", () -> {
            BellCores none = new BellCores();
            none.save();
            due("none", 0, none::restore);
            due("12", 12, () -> twelve(2000).restore());
        });
    }

    /** Each change once, in a foundry that is ready for all. */
    private static void changeAll(BellCores x) {
        x.ring(0);
        x.file(0, 6);
        x.recast(0);
        x.take(0);
        x.pour(0, 0);
        x.pass(3);
        x.strike(1);
        x.rack(9);
        x.rack(8);
        x.mould(60, 4);
        x.mould(50, 3);
        x.smash(0);
        x.bronze(1);
        x.coal(1);
        run(x, "c1;b1;h1");
    }

    static void test() {
        edgesOfAccounts();
        edgesOfMeans();
        edgesOfUndoPromise();
        edgesOfSnapshot();
    }
}
