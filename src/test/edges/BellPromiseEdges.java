/** Promises 10 to 19: bells. */
final class BellPromiseEdges extends Foundries {
    private static void edgesOfPour() {
        String noSuch = noSuch("mould or rack");
        edge(10, noSuch, "the mould, of none, of one and of 8", () -> {
            among(fourRacks(), 0, INDEX, (x, n) -> x.pour(n, 0));
            among(withMoulds(fourRacks(), 10), 1, INDEX, (x, n) -> x.pour(n, 3));
            among(withRacks(eightMoulds(), 1), 8, INDEX, (x, n) -> x.pour(n, 0));
        });
        edge(10, noSuch, "the rack, of none, of one and of 4", () -> {
            among(eightMoulds(), 0, INDEX, (x, n) -> x.pour(0, n));
            among(withRacks(eightMoulds(), 1), 1, INDEX, (x, n) -> x.pour(7, n));
            among(withMoulds(fourRacks(), 10, 10), 4, INDEX, (x, n) -> x.pour(0, n));
        });
        edge(10, noSuch, "-1 is no rack, with bells in the hall", () ->
            among(withMoulds(hallOf(10, 20), 10), 1, INDEX, (x, n) -> x.pour(0, n)));
        edge(10, noSuch, "both", () -> among(settled(new BellCores()), 0, INDEX, (x, n) -> x.pour(n, n)));
        String reasons = reason("1, for the bells, then for those on the rack, 2 or 3");
        edge(10, reasons, "1 for the bells", () -> {
            BellCores full = withMoulds(twelve(2000), 10);
            refused(full, "onto a full rack", 1, 12, () -> full.pour(0, 0));
            BellCores room = withMoulds(twelveCold(0), 10);
            refused(room, "onto a rack with room", 1, 12, () -> room.pour(0, 0));
        });
        edge(10, reasons, "1 for those on the rack", () -> {
            BellCores x = withMoulds(twelveCold(0), 10);
            x.recast(0);
            settled(x);
            refused(x, "onto rack 3", 1, 3, () -> x.pour(0, 3));
            due("onto rack 0", 11, () -> x.pour(0, 0));
        });
        edge(10, reasons, "2", () -> {
            BellCores x = withMoulds(withRacks(foundry(1400, 1), 1), 10, 60);
            refused(x, "the core 10", 2, 59, () -> x.pour(0, 0));
            refused(x, "the core 60", 2, 309, () -> x.pour(1, 0));
        });
        edge(10, reasons, "3", () -> {
            BellCores x = withMoulds(withRacks(foundry(775, 2000), 1), 10, 60);
            refused(x, "the core 10", 3, 5, () -> x.pour(0, 0));
            refused(x, "the core 60", 3, 405, () -> x.pour(1, 0));
        });
        edge(10, "Returns the number of the bell.", "the first and the last", () -> {
            due("the first", 0, () -> withMoulds(fourRacks(), 10).pour(0, 3));
            BellCores x = withMoulds(twelveCold(11), 10);
            x.recast(11);
            due("the last", 11, () -> x.pour(0, 3));
            dueAccount(x, "the bells poured", 12, 13);
        });
    }

    private static void edgesOfPass() {
        edge(11, wrongArgument("the hours are not from 1 to 48"), "both ends", () ->
            range(() -> lone(9, 0), 1, 48, (x, n) -> x.pass(n)));
        edge(11, "Returns how many cracks came.", "no bells, none on a rack, none warm", () -> {
            due("no bells", 0, () -> withRacks(hot(), 9).pass(48));
            due("none on a rack", 0, () -> hallOf(10, 20).pass(48));
            due("none warm", 0, () -> cracked(3).pass(48));
        });
        edge(11, "Returns how many cracks came.", "one bell for one hour, and all that can come", () -> {
            due("one", 1, () -> lone(9, 0).pass(1));
            due("all of one bell", 9, () -> lone(9, 0).pass(48));
            BellCores x = withRacks(hot(), 9, 9, 9);
            for (int rack = 0; rack < 3; rack++) {
                cast(x, 40, 0, rack);
            }
            // Each bell loses 13 an hour of its 80: 7 hours find it warm.
            due("of three bells", 21, () -> x.pass(48));
        });
    }

    private static void edgesOfTakeAndRing() {
        edge(12, noSuch("bell"), "of none, of one and of 12", () -> {
            among(fourRacks(), 0, INDEX, BellCores::take);
            among(lone(9, 4), 1, INDEX, BellCores::take);
            among(twelve(2000), 12, INDEX, BellCores::take);
        });
        String take = reason("5, with -1, or 4");
        edge(12, take, "5", () -> {
            BellCores x = hallOf(10, 20);
            refused(x, "take(0)", 5, -1, () -> x.take(0));
            refused(x, "take(1)", 5, -1, () -> x.take(1));
        });
        edge(12, take, "4", () -> {
            BellCores x = lone(1, 4);
            refused(x, "as it was poured", 4, 120, () -> x.take(0));
            x.pass(23);
            refused(x, "an hour before it is cold", 4, 5, () -> x.take(0));
            x.pass(1);
            due("when it is cold", 0, () -> x.take(0));
            refused(x, "once more", 5, -1, () -> x.take(0));
        });
        edge(12, "Returns the rack.", "the first and the last", () -> {
            BellCores x = twelveCold();
            due("of bell 11", 3, () -> x.take(11));
            due("of bell 0", 0, () -> x.take(0));
        });
        edge(13, noSuch("bell"), "of none, of one and of 12", () -> {
            among(fourRacks(), 0, INDEX, BellCores::ring);
            among(hallOf(10), 1, INDEX, BellCores::ring);
            among(twelve(2000), 12, INDEX, BellCores::ring);
        });
        edge(13, reason("5, with its rack"), "the first and the last rack, warm and cold", () -> {
            BellCores first = twelve(2000);
            refused(first, "ring(0)", 5, 0, () -> first.ring(0));
            BellCores last = twelve(2000);
            refused(last, "ring(11)", 5, 3, () -> last.ring(11));
            BellCores cold = twelveCold();
            refused(cold, "ring(11) when it is cold", 5, 3, () -> cold.ring(11));
            cold.take(11);
            due("ring(11) in the hall", 90, () -> cold.ring(11));
        });
    }

    private static void edgesOfFileAndRecast() {
        edge(13, "Returns its note, as it was rung.", "ahead of the crack that comes, and behind it", () -> {
            BellCores x = cracked(8);
            due("with 8 cracks", 32, () -> x.ring(0));
            due("with 9", 31, () -> x.ring(0));
            due("still with 9", 31, () -> x.ring(0));
            due("a sound one", 90, () -> hallOf(10).ring(0));
        });
        edge(14, "Returns its note then.", "with one mark and with 6", () -> {
            BellCores x = cracked(9);
            due("with one", 32, () -> x.file(0, 1));
            due("with 6", 37, () -> x.file(0, 5));
        });
        edge(14, noSuch("bell"), "of none, of one and of 12", () -> {
            among(fourRacks(), 0, INDEX, (x, n) -> x.file(n, 1));
            among(hallOf(10), 1, INDEX, (x, n) -> x.file(n, 1));
            among(twelve(2000), 12, INDEX, (x, n) -> x.file(n, 1));
        });
        edge(14, wrongArgument("the marks are not from 1 to 6"), "both ends", () ->
            range(() -> hallOf(20), 1, 6, (x, n) -> x.file(0, n)));
        String file = reason("5, with its rack, or 7");
        edge(14, file, "5", () -> {
            BellCores first = twelve(2000);
            refused(first, "file(0, 1)", 5, 0, () -> first.file(0, 1));
            BellCores last = twelve(2000);
            refused(last, "file(11, 6)", 5, 3, () -> last.file(11, 6));
        });
        edge(14, file, "7", () -> {
            BellCores x = hallOf(20);
            for (int i = 1; i <= 6; i++) {
                int marks = i;
                x.file(0, marks);
                refused(x, "one too many behind " + marks, 7, marks, () -> x.file(0, 7 - marks));
                x.undo();
            }
            due("the most", 86, () -> x.file(0, 6));
        });
        edge(15, noSuch("bell"), "of none, of one and of 12", () -> {
            among(fourRacks(), 0, INDEX, BellCores::recast);
            among(hallOf(10), 1, INDEX, BellCores::recast);
            among(twelve(2000), 12, INDEX, BellCores::recast);
        });
        String recast = reason("5, with its rack, or 1, for the pounds");
        edge(15, recast, "5", () -> {
            BellCores first = twelve(2000);
            refused(first, "recast(0)", 5, 0, () -> first.recast(0));
            BellCores last = twelve(2000);
            refused(last, "recast(11)", 5, 3, () -> last.recast(11));
        });
        edge(15, recast, "1, a pound too many, and the brim", () -> {
            // 2000 less 65; 59 of these come back.
            BellCores tooMany = hallOf(11);
            tooMany.bronze(7);
            refused(tooMany, "59 to 1942", 1, 2000, () -> tooMany.recast(0));
            BellCores brim = hallOf(11);
            brim.bronze(6);
            due("59 to 1941", 59, () -> brim.recast(0));
            dueAccount(brim, "the pounds", 1, 2000);
        });
        edge(15, "Returns how many pounds come back.", "of the least and the greatest bell", () -> {
            due("of 60", 54, () -> hallOf(10).recast(0));
            due("of 310", 279, () -> cracked(1).recast(0));
        });
    }

    private static void edgesOfBellOfAndNote() {
        edge(16, noSuch("bell"), "of none, of one and of 12", () -> {
            among(fourRacks(), 0, INDEX, (x, n) -> x.bellOf(n, 0));
            among(hallOf(10), 1, INDEX, (x, n) -> x.bellOf(n, 3));
            among(twelve(2000), 12, INDEX, (x, n) -> x.bellOf(n, 6));
        });
        edge(16, wrongArgument("what is not from 0 to 6"), "both ends", () ->
            range(() -> twelve(2000), 0, 6, (x, n) -> x.bellOf(11, n)));
        edge(16, "3 for its rack, -1 for the hall, 4 for its warmth, 5 for its cracks, 6 for its marks",
            "the least and the most of each", () -> {
            BellCores x = twelve(2000);
            due("as it was poured, on the last rack", "b10 4 60 3 20 0 0 ", () -> bellAt(x, 11));
            x.pass(20);
            x.take(11);
            x.file(11, 6);
            due("in the hall, cold, with all marks", "b10 4 60 -1 0 0 6 ", () -> bellAt(x, 11));
            due("with all cracks", "b60 0 310 -1 0 9 0 ", () -> bellAt(cracked(9), 0));
        });
        edge(17, noSuch("bell"), "of none, of one and of 12, by both ways", () -> {
            among(fourRacks(), 0, INDEX, (x, n) -> x.note(n, false));
            among(fourRacks(), 0, INDEX, (x, n) -> x.note(n, true));
            among(hallOf(10), 1, INDEX, (x, n) -> x.note(n, false));
            among(hallOf(10), 1, INDEX, (x, n) -> x.note(n, true));
            among(twelve(2000), 12, INDEX, (x, n) -> x.note(n, false));
            among(twelve(2000), 12, INDEX, (x, n) -> x.note(n, true));
        });
        edge(17, "by what came to it one by one: marks, and cracks", "the lowest and the highest note", () -> {
            BellCores low = cracked(8);
            low.ring(0);
            low.ring(0);
            due("the lowest", 31, () -> low.note(0, true));
            low.file(0, 6);
            due("with all cracks and marks", 37, () -> low.note(0, true));
            low.undo();
            due("without the marks", 31, () -> low.note(0, true));
            BellCores high = hallOf(10);
            high.file(0, 6);
            due("the highest", 96, () -> high.note(0, true));
        });
    }

    private static void edgesOfWouldCrackAndColdIn() {
        edge(18, noSuch("bell"), "of none, of one and of 12", () -> {
            among(fourRacks(), 0, INDEX, (x, n) -> x.wouldCrack(n, 1));
            among(lone(9, 0), 1, INDEX, (x, n) -> x.wouldCrack(n, 0));
            among(twelve(2000), 12, INDEX, (x, n) -> x.wouldCrack(n, 48));
        });
        edge(18, wrongArgument("the hours are not from 0 to 48"), "both ends", () ->
            range(() -> lone(9, 0), 0, 48, (x, n) -> x.wouldCrack(0, n)));
        String would = "Returns how many cracks a bell would have if so many hours went by, and no bell was poured "
            + "or taken.";
        edge(18, would, "no hours, one, and more than it is warm", () -> {
            BellCores x = withRacks(hot(), 9);
            cast(x, 13, 0, 0);
            stays(x, () -> {
                due("no hours", 0, () -> x.wouldCrack(0, 0));
                due("one", 1, () -> x.wouldCrack(0, 1));
                due("two, which take all 26", 2, () -> x.wouldCrack(0, 2));
                due("three", 2, () -> x.wouldCrack(0, 3));
                due("48", 2, () -> x.wouldCrack(0, 48));
            });
            x.pass(1);
            due("no hours with a crack", 1, () -> x.wouldCrack(0, 0));
            due("48 with a crack", 2, () -> x.wouldCrack(0, 48));
        });
        edge(18, would, "up to 9", () -> {
            BellCores x = lone(3, 0);
            due("8 hours", 8, () -> x.wouldCrack(0, 8));
            due("9 hours", 9, () -> x.wouldCrack(0, 9));
            due("10 hours", 9, () -> x.wouldCrack(0, 10));
            x.pass(8);
            due("two hours behind 8", 9, () -> x.wouldCrack(0, 2));
        });
        edge(18, would, "what it would lose is just not too much", () -> {
            due("6 of the sand 0", 0, () -> lone(2, 0).wouldCrack(0, 48));
            due("7 of the sand 0", 1, () -> lone(3, 0).wouldCrack(0, 1));
        });
        edge(18, would, "in the hall", () -> due("its cracks", 3, () -> cracked(3).wouldCrack(0, 48)));
        edge(19, noSuch("bell"), "of none, of one and of 12", () -> {
            among(fourRacks(), 0, INDEX, BellCores::coldIn);
            among(lone(9, 0), 1, INDEX, BellCores::coldIn);
            among(twelve(2000), 12, INDEX, BellCores::coldIn);
        });
        edge(19, "Returns how many, 0 if it is so, or in the hall.", "0", () -> {
            due("in the hall", 0, () -> hallOf(10).coldIn(0));
            due("cold on a rack", 0, () -> cracked(2).coldIn(1));
        });
        edge(19, "Returns in how many hours a bell will be without warmth, if no bell is poured or taken.",
            "one hour, the most, and hours that are just enough", () -> {
            BellCores last = lone(3, 4);
            last.pass(17);
            due("a warmth of 1", 1, () -> last.coldIn(0));
            due("120 by 5", 24, () -> lone(1, 4).coldIn(0));
            due("120 by 7", 18, () -> lone(3, 4).coldIn(0));
            BellCores most = withRacks(hot(), 1);
            cast(most, 60, 0, 0);
            cast(most, 60, 0, 0);
            cast(most, 60, 0, 0);
            stays(most, () -> due("120 by 1", 120, () -> most.coldIn(2)));
            letHoursGoBy(most, 119);
            due("an hour before", 1, () -> most.coldIn(2));
            most.pass(1);
            due("then", 0, () -> most.coldIn(2));
        });
    }

    static void test() {
        edgesOfPour();
        edgesOfPass();
        edgesOfTakeAndRing();
        edgesOfFileAndRecast();
        edgesOfBellOfAndNote();
        edgesOfWouldCrackAndColdIn();
    }
}
