/** The furnace, moulds and racks, ahead of the promises. */
final class FurnaceEdges extends Foundries {
    private static void edgesOfUse() {
        edge(0, "An object is used for at most 512 calls after it has been made", "the 512th call", () -> {
            BellCores x = new BellCores();
            for (int call = 1; call <= 510; call++) {
                x.coal(20);
            }
            due("the 511th call", 10200, () -> x.account(9));
            due("the 512th call", 7, x::undo);
        });
        edge(0, "All numbers are whole, but two; divisions are rounded down.", "a tenth that is not whole", () -> {
            BellCores x = hallOf(11, 21, 10);
            due("the tenth of 65 is 6", 59, () -> x.recast(0));
            due("the tenth of 115 is 11", 104, () -> x.recast(0));
            due("the tenth of 60 is 6", 54, () -> x.recast(0));
            dueAccount(x, "what was lost", 8, 23);
        });
        edge(0, "A cast bell keeps its note.", "while moulds come and go", () -> {
            BellCores x = withMoulds(withRacks(hot(), 9), 20, 50);
            x.pour(0, 0);
            x.smash(0);
            x.mould(60, 0);
            due("the note", 80, () -> x.note(0, false));
            due("the note again", 80, () -> x.note(0, true));
        });
    }

    private static void edgesOfFurnace() {
        String furnace = "The furnace has a heat from 20 to 1400, and from 0 to 2000 pounds of bronze.";
        edge(0, furnace, "the least heat", () -> {
            BellCores x = new BellCores();
            dueAccount(x, "the heat of a new one", 0, 20);
            x.pass(1);
            dueAccount(x, "the heat an hour later", 0, 20);
        });
        edge(0, furnace, "the greatest heat", () -> {
            BellCores x = foundry(1400, 0);
            dueAccount(x, "the heat", 0, 1400);
            due("the heat with a load more", 1400, () -> x.coal(1));
        });
        edge(0, furnace, "no pounds", () -> {
            BellCores x = withMoulds(withRacks(foundry(1400, 60), 9), 10, 10);
            due("a bell of all pounds", 0, () -> x.pour(0, 0));
            dueAccount(x, "the pounds", 1, 0);
            refused(x, "a bell of none", 2, 60, () -> x.pour(0, 0));
        });
        edge(0, furnace, "2000 pounds", () -> {
            BellCores x = foundry(20, 1999);
            due("the last pound", 2000, () -> x.bronze(1));
            refused(x, "a pound more", 1, 2000, () -> x.bronze(1));
        });
        edgesOfHeat();
    }

    private static void edgesOfHeat() {
        String coal = "Each load of coal makes the heat 30 more, up to 1400.";
        edge(0, coal, "below, at and above 1400", () -> {
            due("from 20", 50, () -> foundry(20, 0).coal(1));
            due("from 1365", 1395, () -> foundry(1365, 0).coal(1));
            due("from 1370", 1400, () -> foundry(1370, 0).coal(1));
            due("from 1375", 1400, () -> foundry(1375, 0).coal(1));
            due("from 1400", 1400, () -> foundry(1400, 0).coal(20));
            due("from 800, 20 loads", 1400, () -> foundry(800, 0).coal(20));
            due("from 795, 20 loads", 1395, () -> foundry(795, 0).coal(20));
        });
        String hour = "Each hour makes it 5 less, down to 20.";
        edge(0, hour, "from 25 and 30", () -> {
            BellCores x = foundry(30, 0);
            x.pass(1);
            dueAccount(x, "from 30", 0, 25);
            x.pass(1);
            dueAccount(x, "from 25", 0, 20);
            x.pass(1);
            dueAccount(x, "from 20", 0, 20);
        });
        edge(0, hour, "from less than 5 above", () -> {
            for (int heat = 21; heat < 25; heat++) {
                BellCores x = exactly(heat, 0);
                dueAccount(x, "the heat", 0, heat);
                x.pass(1);
                dueAccount(x, "from " + heat, 0, 20);
            }
        });
        edge(0, hour, "many at once", () -> {
            BellCores x = foundry(260, 0);
            x.pass(48);
            dueAccount(x, "from 260", 0, 20);
            BellCores more = foundry(265, 0);
            more.pass(48);
            dueAccount(more, "from 265", 0, 25);
            BellCores less = foundry(255, 0);
            less.pass(48);
            dueAccount(less, "from 255", 0, 20);
            BellCores most = foundry(1400, 0);
            most.pass(48);
            dueAccount(most, "from 1400", 0, 1160);
        });
    }

    private static void edgesOfMoulds() {
        String moulds = "At most 8 moulds are made, numbered from 0, each with a core from 10 to 60 and sand from 0 "
            + "to 4.";
        edge(0, moulds, "8 of them", () -> {
            BellCores x = new BellCores();
            for (int i = 0; i < 8; i++) {
                int number = i;
                due("a mould", number, () -> x.mould(10 + number, 0));
            }
            refused(x, "a ninth one", 1, 8, () -> x.mould(10, 0));
            x.smash(3);
            due("one in the place of a smashed one", 7, () -> x.mould(18, 0));
            due("the moulds then", "10 11 12 14 15 16 17 18", () -> coresOf(x));
        });
        edge(0, moulds, "the least and the greatest one", () -> {
            BellCores x = new BellCores();
            x.mould(10, 0);
            x.mould(60, 4);
            due("the least core", 10, () -> x.mouldOf(0, 0));
            due("the least sand", 0, () -> x.mouldOf(0, 1));
            due("the greatest core", 60, () -> x.mouldOf(1, 0));
            due("the greatest sand", 4, () -> x.mouldOf(1, 1));
        });
        String takes = "A bell of a mould takes 5 pounds of bronze for each of its core, and 10 more; to pour it, "
            + "the heat must be 700, and 8 for each of its core, together, at least.";
        edge(0, takes, "just enough bronze", () -> {
            due("the core 10", 0, () -> withMoulds(withRacks(foundry(1400, 60), 1), 10).pour(0, 0));
            due("the core 60", 0, () -> withMoulds(withRacks(foundry(1400, 310), 1), 60).pour(0, 0));
        });
        edge(0, takes, "a pound less", () -> {
            BellCores least = withMoulds(withRacks(foundry(1400, 59), 1), 10);
            refused(least, "the core 10", 2, 1, () -> least.pour(0, 0));
            BellCores greatest = withMoulds(withRacks(foundry(1400, 309), 1), 60);
            refused(greatest, "the core 60", 2, 1, () -> greatest.pour(0, 0));
        });
        edge(0, takes, "just enough heat", () -> {
            due("the core 10", 1, () -> exactly(780, 500, 10).pour(0, 0));
            due("the core 60", 1, () -> exactly(1180, 500, 60).pour(0, 0));
        });
        edge(0, takes, "a heat that is 1 less", () -> {
            BellCores least = exactly(779, 500, 10);
            refused(least, "the core 10", 3, 1, () -> least.pour(0, 0));
            BellCores greatest = exactly(1179, 500, 60);
            refused(greatest, "the core 60", 3, 1, () -> greatest.pour(0, 0));
        });
    }

    private static void edgesOfPouring() {
        String pour = "To pour makes the heat less by a fifth of the pounds, rounded down, but not below 20, and "
            + "breaks the mould: it is gone, and the numbers of those behind become 1 less.";
        edge(0, pour, "the heat", () -> {
            BellCores x = withMoulds(withRacks(hot(), 1), 10, 60);
            x.pour(0, 0);
            dueAccount(x, "by the core 10", 0, 1388);
            x.pour(0, 0);
            dueAccount(x, "by the core 60", 0, 1326);
            // The least heat that a pour can leave is far above 20: 780 less 12.
            BellCores least = withRacks(exactly(780, 500, 10), 1);
            least.pour(0, 0);
            dueAccount(least, "from the least heat", 0, 768);
        });
        edge(0, pour, "the first, a middle and the last mould", () -> {
            int[] poured = {0, 1, 2};
            String[] wants = {"20 30", "10 30", "10 20"};
            for (int mould : poured) {
                BellCores x = withMoulds(withRacks(hot(), 1), 10, 20, 30);
                x.pour(mould, 0);
                due("the moulds without " + mould, wants[mould], () -> coresOf(x));
                due("the bell's core", 10 + 10 * mould, () -> x.bellOf(0, 0));
            }
        });
        edge(0, pour, "the only mould", () -> {
            BellCores x = withMoulds(withRacks(hot(), 1), 10);
            x.pour(0, 0);
            dueAccount(x, "the moulds", 2, 0);
            throwing(x, "to pour it again", INDEX, () -> x.pour(0, 0));
        });
        edge(0, pour, "room for a mould again", () -> {
            BellCores x = withMoulds(withRacks(hot(), 1), 10, 10, 10, 10, 10, 10, 10, 10);
            refused(x, "a ninth mould", 1, 8, () -> x.mould(10, 0));
            x.pour(7, 0);
            due("the eighth mould", 7, () -> x.mould(10, 0));
        });
    }

    private static void edgesOfRacks() {
        String racks = "At most 4 racks are set, numbered from 0, each with a draught from 1 to 9, and room for 3 "
            + "bells.";
        edge(0, racks, "4 of them", () -> {
            BellCores x = new BellCores();
            for (int i = 0; i < 4; i++) {
                int number = i;
                due("a rack", number, () -> x.rack(1 + number));
            }
            refused(x, "a fifth one", 1, 4, () -> x.rack(1));
            x.strike(1);
            due("one in the place of a struck one", 3, () -> x.rack(5));
        });
        edge(0, racks, "the least and the greatest draught", () -> {
            BellCores x = withRacks(new BellCores(), 1, 9);
            due("the least", 1, () -> x.rackOf(0, 0));
            due("the greatest", 9, () -> x.rackOf(1, 0));
        });
        edge(0, racks, "room for 3 bells", () -> {
            BellCores x = withMoulds(withRacks(hot(), 1, 1), 10, 10, 10, 10);
            due("the first bell", 0, () -> x.pour(0, 0));
            due("the second bell", 1, () -> x.pour(0, 0));
            due("the third bell", 2, () -> x.pour(0, 0));
            refused(x, "a fourth bell", 1, 3, () -> x.pour(0, 0));
            due("on another rack", 3, () -> x.pour(0, 1));
        });
        edge(0, racks, "room again when a bell was taken", () -> {
            BellCores x = withRacks(hot(), 1);
            cast(x, 10, 4, 0);
            cast(x, 10, 4, 0);
            cast(x, 10, 4, 0);
            x.mould(10, 4);
            x.pass(20);
            refused(x, "a fourth bell when all are cold", 1, 3, () -> x.pour(0, 0));
            x.take(1);
            due("when one was taken", 3, () -> x.pour(0, 0));
        });
        String struck = "When a rack is struck, the numbers of those behind become 1 less.";
        edge(0, struck, "the first, a middle, the last and the only rack", () -> {
            int[][] wants = {{2, 3}, {1, 3}, {1, 2}};
            for (int i = 0; i < 3; i++) {
                int rack = i;
                BellCores x = withRacks(new BellCores(), 1, 2, 3);
                due("strike(" + rack + ")", 2, () -> x.strike(rack));
                due("the first one then", wants[rack][0], () -> x.rackOf(0, 0));
                due("the second one then", wants[rack][1], () -> x.rackOf(1, 0));
                throwing(x, "the third one then", INDEX, () -> x.rackOf(2, 0));
            }
            due("the only one", 0, () -> withRacks(new BellCores(), 4).strike(0));
        });
    }

    static void test() {
        edgesOfUse();
        edgesOfFurnace();
        edgesOfMoulds();
        edgesOfPouring();
        edgesOfRacks();
    }
}
