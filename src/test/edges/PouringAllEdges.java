/** Pouring all, ahead of the promises. */
final class PouringAllEdges extends Foundries {
    private static void edgesOfPouringAll() {
        String all = "Moulds can be poured one after the other, in some order, if for each of them there is bronze "
            + "and heat enough when it comes, without coal, hours and racks.";
        edge(0, all, "just enough bronze, and a pound less", () -> {
            duePourable("370 for two", withMoulds(foundry(1400, 370), 10, 60), 2, 2);
            duePourable("369 for two", withMoulds(foundry(1400, 369), 10, 60), 1, 1);
            duePourable("60 for one", withMoulds(foundry(1400, 60), 10), 1, 1);
            duePourable("59 for one", withMoulds(foundry(1400, 59), 10), 0, 0);
        });
        edge(0, all, "just enough heat, and 1 less", () -> {
            duePourable("780 for one", exactly(780, 500, 10), 1, 1);
            duePourable("779 for one", exactly(779, 500, 10), 0, 0);
            // The core 40 needs 1020 and leaves 42 less; the core 35 needs 980.
            duePourable("1022 for two", exactly(1022, 500, 40, 35), 2, 2);
            duePourable("1021 for two", exactly(1021, 500, 40, 35), 1, 1);
            duePourable("1022 for two, the cool one ahead", exactly(1022, 500, 35, 40), 2, 2);
        });
        edge(0, all, "no racks, and no room for bells", () -> {
            duePourable("no racks", withMoulds(hot(), 10, 10), 2, 2);
            duePourable("12 bells", withMoulds(twelve(2000), 10, 10), 2, 2);
        });
        edge(0, all, "nothing to pour, and nothing to pour with", () -> {
            duePourable("a new foundry", new BellCores(), 0, 0);
            duePourable("no moulds", hot(), 0, 0);
            duePourable("no bronze", withMoulds(foundry(1400, 0), 10, 20), 0, 0);
            duePourable("no heat", withMoulds(foundry(20, 2000), 10, 20), 0, 0);
        });
        edge(0, all, "8 moulds", () -> {
            duePourable("all of them", withMoulds(hot(), 10, 10, 10, 10, 10, 10, 10, 10), 8, 8);
            // 1400, 1338, 1276 and 1214 are enough for the core 60, but 1152 is not.
            duePourable("half of them", withMoulds(hot(), 60, 60, 60, 60, 60, 60, 60, 60), 4, 4);
            duePourable("bronze for 7", withMoulds(foundry(1400, 479), 10, 10, 10, 10, 10, 10, 10, 10), 7, 7);
        });
        String hottest = "The hottest way looks at the moulds from that with the greatest core on, of several the "
            + "lowest first, and pours each for which there is enough then.";
        edge(0, hottest, "one for which there is not enough is gone by", () -> {
            duePourable("the first one looked at", withMoulds(foundry(1000, 2000), 10, 60, 20), 2, 2);
            duePourable("one in between", withMoulds(foundry(1400, 280), 40, 30, 10), 2, 2);
            duePourable("the last one", withMoulds(foundry(1400, 169), 10, 30), 1, 1);
        });
        edge(0, hottest, "several with one core", () -> {
            duePourable("bronze for two of three", withMoulds(foundry(1400, 329), 20, 20, 20), 2, 2);
            duePourable("a cool one behind them", withMoulds(foundry(1400, 280), 10, 20, 20), 3, 3);
        });
        edge(0, hottest, "fewer than the best way", () -> {
            duePourable("bronze for the dear one, or for three", withMoulds(foundry(1400, 190), 10, 10, 10, 30), 3, 1);
            duePourable("just enough behind the dear one", withMoulds(foundry(1400, 220), 10, 10, 10, 30), 3, 2);
        });
        edgesOfFirstMoulds();
    }

    private static void edgesOfFirstMoulds() {
        String best = "The best way pours as many as can be; of all ways that pour so many, its first mould is the "
            + "lowest that is poured first by one of them.";
        edge(0, best, "all ways alike", () -> {
            due("the lowest", 0, () -> withMoulds(hot(), 20, 20, 20).first());
            due("whatever its core", 0, () -> withMoulds(hot(), 10, 60, 30).first());
        });
        edge(0, best, "the lowest one would spoil the way", () -> {
            due("by its bronze", 1, () -> withMoulds(foundry(1400, 180), 30, 10, 10, 10).first());
            // The core 10 leaves 1009 of 1021: the core 39 needs 1012; the core 39 leaves 980.
            due("by its heat", 1, () -> exactly(1021, 2000, 10, 39).first());
            due("with just enough heat", 0, () -> exactly(1024, 2000, 10, 39).first());
            due("with 1 less", 1, () -> exactly(1023, 2000, 10, 39).first());
        });
        edge(0, best, "the lowest one cannot be poured at all", () -> {
            due("by its heat", 1, () -> withMoulds(foundry(1000, 2000), 60, 10).first());
            due("by its bronze", 2, () -> withMoulds(foundry(1400, 100), 60, 50, 10).first());
        });
        edge(0, best, "the last one of 8", () ->
            due("the only one that can be poured", 7,
                () -> withMoulds(foundry(1400, 60), 60, 60, 60, 60, 60, 60, 60, 10).first()));
    }

    static void test() {
        edgesOfPouringAll();
    }
}
