/** Promises 20 to 24: peals, bells in an order, and pouring all. */
final class PealPromiseEdges extends Foundries {
    private static void edgesOfPealPromises() {
        edge(20, wrongArgument("the note is not from 0 to 100"), "both ends, by both ways", () -> {
            range(() -> hallOf(20), 0, 100, (x, n) -> x.peal(n, false));
            range(() -> hallOf(20), 0, 100, (x, n) -> x.peal(n, true));
        });
        edge(20, "Returns how long, 0 to 8.", "none, one and 8", () -> {
            BellCores x = hallOf(30, 28, 26, 25, 23, 21, 19, 18);
            duePeal(x, 69, 0);
            duePeal(x, 70, 8);
            duePeal(x, 82, 1);
            duePeal(x, 100, 0);
            duePeal(x, 0, 0);
        });
        String none = "Throws `NoSuchElementException` if there are no bells in the hall";
        edge(21, none, "no bells", () -> {
            BellCores x = settled(new BellCores());
            throwing(x, "longest", NONE, x::longest);
        });
        edge(21, none, "bells on racks alone", () -> {
            BellCores warm = twelve(2000);
            throwing(warm, "when they are warm", NONE, warm::longest);
            BellCores cold = twelveCold();
            throwing(cold, "when they are cold", NONE, cold::longest);
            cold.take(11);
            due("with one in the hall", 90, cold::longest);
            cold.undo();
            due("when that is undone", NONE, cold::longest);
        });
        edge(21, none, "the last one was recast", () -> {
            BellCores x = hallOf(20);
            x.recast(0);
            throwing(x, "longest", NONE, x::longest);
        });
        String longest = "Returns the note from which the longest peal is, of several the lowest.";
        edge(21, longest, "several of one length", () -> {
            due("of length 1", 60, () -> hallOf(10, 40, 25).longest());
            due("of length 2", 60, () -> hallOf(10, 8 + 30, 40, 20, 18).longest());
            due("with one note", 80, () -> hallOf(20, 20).longest());
        });
        edge(21, longest, "a longer one above", () -> {
            due("of length 2 above 1", 70, () -> hallOf(40, 30, 28).longest());
            due("of length 8", 70, () -> hallOf(50, 30, 28, 26, 25, 23, 21, 19, 18).longest());
        });
        edge(21, longest, "the lowest and the highest note", () -> {
            due("the lowest", 31, () -> cracked(9).longest());
            BellCores high = hallOf(10);
            high.file(0, 6);
            due("the highest", 96, high::longest);
        });
    }

    private static void edgesOfRanked() {
        edge(22, "Throws `NoSuchElementException` if there is no such place", "of none, of one and of 12", () -> {
            among(settled(new BellCores()), 0, NONE, BellCores::ranked);
            among(hallOf(10), 1, NONE, BellCores::ranked);
            among(twelve(2000), 12, NONE, BellCores::ranked);
        });
        edge(22, "Returns a bell by its note: the highest first, of several the lowest number.", "all alike", () -> {
            BellCores x = twelve(2000);
            for (int place = 0; place < 12; place++) {
                int p = place;
                due("ranked(" + p + ")", p, () -> x.ranked(p));
            }
        });
        edge(22, "Returns a bell by its note: the highest first, of several the lowest number.",
            "two alike, last and first", () -> {
            BellCores x = hallOf(20, 10, 20, 10);
            int[] wants = {1, 3, 0, 2};
            for (int place = 0; place < 4; place++) {
                int p = place;
                due("ranked(" + p + ")", wants[p], () -> x.ranked(p));
            }
            x.file(2, 1);
            due("one that is 1 higher", 2, () -> x.ranked(2));
            x.file(2, 5);
            due("one that is 4 lower than the first", 2, () -> x.ranked(2));
        });
    }

    private static void edgesOfPourable() {
        edge(23, "Returns how many moulds could be poured one after the other now.",
            "none of none, and all of 8", () -> {
            duePourable("none", hot(), 0, 0);
            BellCores x = withMoulds(hot(), 17, 16, 15, 14, 13, 12, 11, 10);
            stays(x, () -> duePourable("all", x, 8, 8));
            x.smash(7);
            duePourable("all but the last", x, 7, 7);
            x.mould(10, 0);
            x.smash(0);
            duePourable("all but the first", x, 7, 7);
        });
        edge(23, "Returns how many moulds could be poured one after the other now.", "one is out of reach", () -> {
            duePourable("by heat", withMoulds(foundry(1175, 2000), 60), 0, 0);
            duePourable("just not", withMoulds(foundry(1180, 2000), 60), 1, 1);
        });
        String none = "Throws `NoSuchElementException` if none could be poured";
        edge(24, none, "no moulds", () -> {
            BellCores x = hot();
            throwing(x, "first", NONE, x::first);
        });
        edge(24, none, "a pound lacks", () -> {
            BellCores x = withMoulds(foundry(1400, 59), 10, 20);
            throwing(x, "first", NONE, x::first);
            x.bronze(1);
            due("with it", 0, x::first);
        });
        edge(24, none, "a heat that is 1 less", () -> {
            BellCores x = exactly(779, 500, 10, 20);
            throwing(x, "first", NONE, x::first);
            due("without that", 0, () -> exactly(780, 500, 10, 20).first());
        });
        edge(24, none, "the last mould was smashed", () -> {
            BellCores x = withMoulds(hot(), 10);
            x.smash(0);
            throwing(x, "first", NONE, x::first);
        });
        edge(24, "Returns the first mould of the best way.", "the first and the last of 8", () -> {
            BellCores x = eightMoulds();
            stays(x, () -> due("any way", 0, x::first));
            due("the last alone", 7, () -> withMoulds(foundry(800, 2000), 60, 60, 60, 60, 60, 60, 60, 12).first());
        });
    }

    static void test() {
        edgesOfPealPromises();
        edgesOfRanked();
        edgesOfPourable();
    }
}
