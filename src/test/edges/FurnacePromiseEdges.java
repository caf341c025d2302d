/** Promises 1 to 9: a new object, the furnace, moulds and racks. */
final class FurnacePromiseEdges extends Foundries {
    private static void edgesOfNewAndFurnace() {
        edge(1, "Creates a foundry without moulds, racks, bells and bronze; the furnace has the heat 20.",
            "all of it", () -> {
            BellCores x = new BellCores();
            due("the accounts", "20 0 0 0 0 0 0 0 0 0 0 0 0 0 0 0", () -> accountsOf(x));
            due("the texts", "input 0 line '' error -1 reason " + NONE + " " + NONE, () -> textsOf(x) + reasonOf(x));
            due("the first mould", 0, () -> x.mould(10, 0));
            due("the first rack", 0, () -> x.rack(1));
        });
        edge(1, "Creates a foundry without moulds, racks, bells and bronze; the furnace has the heat 20.",
            "beside another", () -> {
            BellCores other = readyForAll();
            String before = stateOf(other);
            BellCores x = new BellCores();
            due("the accounts", "20 0 0 0 0 0 0 0 0 0 0 0 0 0 0 0", () -> accountsOf(x));
            x.coal(20);
            due("the other one", before, () -> stateOf(other));
        });
        edge(2, wrongArgument("the loads are not from 1 to 20"), "both ends", () ->
            range(() -> settled(new BellCores()), 1, 20, (x, n) -> x.coal(n)));
        edge(2, "Returns the heat then.", "of the fewest and the most loads", () -> {
            BellCores x = new BellCores();
            due("coal(1)", 50, () -> x.coal(1));
            due("coal(20)", 650, () -> x.coal(20));
            dueAccount(x, "the loads", 9, 21);
        });
        edge(3, wrongArgument("the pounds are not from 1 to 500"), "both ends", () ->
            range(() -> foundry(20, 1000), 1, 500, (x, n) -> x.bronze(n)));
        edge(3, wrongArgument("the pounds are not from 1 to 500"), "when there is no room for one", () -> {
            BellCores x = hot();
            throwing(x, "bronze(0)", ARGUMENT, () -> x.bronze(0));
            throwing(x, "bronze(501)", ARGUMENT, () -> x.bronze(501));
        });
        edge(3, reason("1"), "the most pounds at once", () -> {
            BellCores x = foundry(20, 1501);
            refused(x, "bronze(500)", 1, 2000, () -> x.bronze(500));
            due("bronze(499)", 2000, () -> x.bronze(499));
        });
        edge(3, reason("1"), "one pound", () -> {
            BellCores x = hot();
            refused(x, "bronze(1)", 1, 2000, () -> x.bronze(1));
            BellCores room = foundry(20, 1999);
            refused(room, "bronze(2)", 1, 2000, () -> room.bronze(2));
            due("bronze(1)", 2000, () -> room.bronze(1));
        });
        edge(3, "Returns the pounds in it then.", "the first and the last pound", () -> {
            due("the first one", 1, () -> new BellCores().bronze(1));
            due("to the brim", 2000, () -> foundry(20, 1500).bronze(500));
        });
    }

    private static void edgesOfMouldPromises() {
        edge(4, wrongArgument("a number is out of range"), "the core, both ends", () ->
            range(() -> settled(new BellCores()), 10, 60, (x, n) -> x.mould(n, 2)));
        edge(4, wrongArgument("a number is out of range"), "the sand, both ends", () ->
            range(() -> settled(new BellCores()), 0, 4, (x, n) -> x.mould(30, n)));
        edge(4, wrongArgument("a number is out of range"), "when there is no room for one", () -> {
            BellCores x = eightMoulds();
            throwing(x, "the core 9", ARGUMENT, () -> x.mould(9, 0));
            throwing(x, "the sand 5", ARGUMENT, () -> x.mould(10, 5));
        });
        edge(4, reason("1"), "the ninth one", () -> {
            BellCores x = eightMoulds();
            refused(x, "mould(10, 0)", 1, 8, () -> x.mould(10, 0));
            refused(x, "mould(60, 4)", 1, 8, () -> x.mould(60, 4));
        });
        edge(4, "Returns its number.", "the first and the last", () -> {
            due("the first", 0, () -> new BellCores().mould(10, 0));
            due("the last", 7, () -> withMoulds(hot(), 10, 10, 10, 10, 10, 10, 10).mould(60, 4));
        });
        edge(5, noSuch("mould"), "of none, of one and of 8", () -> {
            among(settled(new BellCores()), 0, INDEX, BellCores::smash);
            among(withMoulds(hot(), 10), 1, INDEX, BellCores::smash);
            among(eightMoulds(), 8, INDEX, BellCores::smash);
        });
        edge(5, "Returns how many moulds there are then.", "of one and of 8", () -> {
            due("of one", 0, () -> withMoulds(hot(), 10).smash(0));
            BellCores x = eightMoulds();
            due("the last of 8", 7, () -> x.smash(7));
            due("the moulds then", "10 20 30 40 50 60 11", () -> coresOf(x));
            due("the first of 7", 6, () -> x.smash(0));
            due("the moulds at last", "20 30 40 50 60 11", () -> coresOf(x));
        });
        edge(6, noSuch("mould"), "of none, of one and of 8", () -> {
            among(settled(new BellCores()), 0, INDEX, (x, n) -> x.mouldOf(n, 0));
            among(withMoulds(hot(), 10), 1, INDEX, (x, n) -> x.mouldOf(n, 4));
            among(eightMoulds(), 8, INDEX, (x, n) -> x.mouldOf(n, 2));
        });
        edge(6, wrongArgument("what is not from 0 to 4"), "both ends", () ->
            range(Foundries::eightMoulds, 0, 4, (x, n) -> x.mouldOf(7, n)));
        edge(6, "2 for the pounds that it takes, 3 for the heat that it needs, 4 for the note that a bell of it has "
            + "at first", "the least and the greatest core", () -> {
            BellCores x = withMoulds(hot(), 10, 60);
            int[][] wants = {{60, 780, 90}, {310, 1180, 40}};
            for (int i = 0; i < 6; i++) {
                int mould = i / 3;
                int what = 2 + i % 3;
                due("mouldOf(" + mould + ", " + what + ")", wants[mould][what - 2], () -> x.mouldOf(mould, what));
            }
        });
    }

    private static void edgesOfRackPromises() {
        edge(7, wrongArgument("the draught is out of range"), "both ends", () ->
            range(() -> settled(new BellCores()), 1, 9, BellCores::rack));
        edge(7, wrongArgument("the draught is out of range"), "when there is no room for one", () -> {
            BellCores x = fourRacks();
            throwing(x, "rack(0)", ARGUMENT, () -> x.rack(0));
            throwing(x, "rack(10)", ARGUMENT, () -> x.rack(10));
        });
        edge(7, reason("1"), "the fifth one", () -> {
            BellCores x = fourRacks();
            refused(x, "rack(1)", 1, 4, () -> x.rack(1));
            refused(x, "rack(9)", 1, 4, () -> x.rack(9));
        });
        edge(7, "Returns its number.", "the first and the last", () -> {
            due("the first", 0, () -> new BellCores().rack(1));
            due("the last", 3, () -> withRacks(new BellCores(), 1, 2, 3).rack(9));
        });
        edge(8, noSuch("rack"), "of none, of one and of 4", () -> {
            among(settled(new BellCores()), 0, INDEX, BellCores::strike);
            among(withRacks(new BellCores(), 1), 1, INDEX, BellCores::strike);
            among(fourRacks(), 4, INDEX, BellCores::strike);
        });
        edge(8, noSuch("rack"), "-1 is none, with bells in the hall", () ->
            among(hallOf(10, 20), 1, INDEX, BellCores::strike));
        edge(8, reason("6"), "one bell, cold", () -> {
            BellCores x = fourRacks();
            cast(x, 10, 4, 3);
            x.pass(48);
            settled(x);
            refused(x, "strike(3)", 6, 1, () -> x.strike(3));
            x.take(0);
            due("without it", 3, () -> x.strike(3));
        });
        edge(8, reason("6"), "a full rack", () -> {
            BellCores first = twelve(2000);
            refused(first, "strike(0)", 6, 3, () -> first.strike(0));
            BellCores last = twelve(2000);
            refused(last, "strike(3)", 6, 3, () -> last.strike(3));
        });
        edge(8, "Returns how many racks there are then.", "of one and of 4", () -> {
            due("of one", 0, () -> withRacks(new BellCores(), 1).strike(0));
            due("of 4", 3, () -> fourRacks().strike(0));
        });
        edge(9, noSuch("rack"), "of none, of one and of 4", () -> {
            among(settled(new BellCores()), 0, INDEX, (x, n) -> x.rackOf(n, 0));
            among(withRacks(new BellCores(), 1), 1, INDEX, (x, n) -> x.rackOf(n, 1));
            among(fourRacks(), 4, INDEX, (x, n) -> x.rackOf(n, 2));
        });
        edge(9, noSuch("rack"), "-1 is none, with bells in the hall", () -> {
            among(hallOf(10, 20), 1, INDEX, (x, n) -> x.rackOf(n, 1));
            among(hallOf(10, 20), 1, INDEX, (x, n) -> x.rackOf(n, 2));
        });
        edge(9, wrongArgument("what is not from 0 to 2"), "both ends", () ->
            range(Foundries::fourRacks, 0, 2, (x, n) -> x.rackOf(3, n)));
        edge(9, "1 for its bells, 2 for what a bell on it would lose in an hour now, be it 0 or not",
            "no bell, and each number of them up to 3", () -> {
            BellCores x = withRacks(hot(), 1, 9);
            for (int i = 0; i <= 3; i++) {
                int bells = i;
                due("the bells", bells, () -> x.rackOf(1, 1));
                due("what one loses of " + bells, 15 - 2 * bells, () -> x.rackOf(1, 2));
                due("what one loses on the empty rack", 7, () -> x.rackOf(0, 2));
                if (bells < 3) {
                    cast(x, 10, 4, 1);
                }
            }
            x.pass(48);
            due("what one loses when all are cold", 9, () -> x.rackOf(1, 2));
        });
    }

    static void test() {
        edgesOfNewAndFurnace();
        edgesOfMouldPromises();
        edgesOfRackPromises();
    }
}
