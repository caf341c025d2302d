import java.util.Arrays;

/** Bells, cooling, notes and peals, ahead of the promises. */
final class BellEdges extends Foundries {
    private static void edgesOfBells() {
        String bells = "At most 12 bells are there, numbered from 0 in the order in which they were poured, each on "
            + "a rack or in the hall.";
        edge(0, bells, "12 of them", () -> {
            BellCores x = withMoulds(twelve(2000), 10);
            dueAccount(x, "the bells", 4, 12);
            due("the last one", 3, () -> x.bellOf(11, 3));
            refused(x, "one more", 1, 12, () -> x.pour(0, 0));
        });
        edge(0, bells, "those in the hall are of the 12", () -> {
            BellCores x = withMoulds(twelve(2000), 10);
            x.pass(20);
            x.take(5);
            dueAccount(x, "the bells", 4, 12);
            refused(x, "one more, on a rack with room", 1, 12, () -> x.pour(0, 1));
            x.recast(5);
            due("one in the place of a recast one", 11, () -> x.pour(0, 1));
        });
        edge(0, bells, "in the order in which they were poured, over the racks", () -> {
            BellCores x = withRacks(hot(), 1, 1);
            cast(x, 30, 4, 1);
            cast(x, 20, 4, 0);
            cast(x, 10, 4, 1);
            due("the first one", 30, () -> x.bellOf(0, 0));
            due("the second one", 20, () -> x.bellOf(1, 0));
            due("the third one", 10, () -> x.bellOf(2, 0));
        });
        String bell = "A bell has the core and the sand of its mould, and its pounds; its warmth is twice its core "
            + "at first.";
        edge(0, bell, "of the least and the greatest mould", () -> {
            BellCores x = withRacks(hot(), 9);
            cast(x, 10, 0, 0);
            cast(x, 60, 4, 0);
            due("the least", "b10 0 60 0 20 0 0 ", () -> bellAt(x, 0));
            due("the greatest", "b60 4 310 0 120 0 0 ", () -> bellAt(x, 1));
        });
        edge(0, bell, "in the place of one with marks and cracks", () -> {
            BellCores x = readyForAll();
            x.take(2);
            x.recast(2);
            x.take(1);
            x.recast(1);
            x.file(0, 6);
            x.recast(0);
            due("its number", 0, () -> x.pour(0, 0));
            due("it", "b10 1 60 0 20 0 0 ", () -> bellAt(x, 0));
            due("its note", 90, () -> x.note(0, false));
            due("its note again", 90, () -> x.note(0, true));
        });
        String recast = "When a bell is recast, the numbers of those behind become 1 less.";
        edge(0, recast, "the first, a middle, the last and the only bell", () -> {
            String[] wants = {"b20 4 110 -1 0 0 0 b30 4 160 -1 0 0 0 ", "b10 4 60 -1 0 0 0 b30 4 160 -1 0 0 0 ",
                "b10 4 60 -1 0 0 0 b20 4 110 -1 0 0 0 "};
            for (int i = 0; i < 3; i++) {
                int gone = i;
                BellCores x = hallOf(10, 20, 30);
                x.recast(gone);
                due("the bells without " + gone, wants[gone], () -> bellAt(x, 0) + bellAt(x, 1));
                throwing(x, "the third one then", INDEX, () -> x.bellOf(2, 0));
            }
            BellCores only = hallOf(10);
            only.recast(0);
            dueAccount(only, "the bells without the only one", 4, 0);
        });
    }

    private static void edgesOfCooling() {
        String cooling = "In an hour each bell on a rack loses as much warmth as the draught, and twice as many more "
            + "as there are places without a bell on its rack, as the hour begins; but warmth is never below 0, and "
            + "a bell without warmth loses none and does not crack.";
        edge(0, cooling, "the least that is lost", () -> {
            BellCores x = withRacks(hot(), 1);
            cast(x, 60, 0, 0);
            cast(x, 60, 0, 0);
            cast(x, 60, 0, 0);
            due("cracks", 0, () -> x.pass(1));
            due("a full rack with the draught 1", 119, () -> x.bellOf(0, 4));
            due("the last bell of it", 119, () -> x.bellOf(2, 4));
        });
        edge(0, cooling, "the most that is lost", () -> {
            BellCores x = lone(9, 4);
            due("cracks", 0, () -> x.pass(1));
            due("a lone bell with the draught 9", 107, () -> x.bellOf(0, 4));
        });
        edge(0, cooling, "a cold bell has its place on the rack", () -> {
            BellCores x = withRacks(hot(), 1);
            cast(x, 10, 4, 0);
            x.pass(4);
            due("the first one is cold", 0, () -> x.bellOf(0, 4));
            cast(x, 60, 4, 0);
            x.pass(1);
            due("the second one loses 3", 117, () -> x.bellOf(1, 4));
        });
        edge(0, cooling, "a bell on another rack or in the hall has no place on it", () -> {
            BellCores x = withRacks(hot(), 1, 1);
            cast(x, 10, 4, 0);
            cast(x, 10, 4, 1);
            x.pass(4);
            x.take(1);
            cast(x, 60, 4, 1);
            x.pass(1);
            due("a lone bell loses 5", 115, () -> x.bellOf(2, 4));
        });
        edge(0, cooling, "warmth that is just enough", () -> {
            BellCores x = withRacks(hot(), 1);
            cast(x, 10, 4, 0);
            x.pass(3);
            due("5 are left", 5, () -> x.bellOf(0, 4));
            x.pass(1);
            due("none is left", 0, () -> x.bellOf(0, 4));
            x.pass(1);
            due("none is below 0", 0, () -> x.bellOf(0, 4));
        });
        edge(0, cooling, "warmth that is less than what would be lost", () -> {
            BellCores x = withRacks(hot(), 5);
            cast(x, 10, 4, 0);
            x.pass(2);
            due("2 are left of 20", 2, () -> x.bellOf(0, 4));
            x.pass(1);
            due("not below 0", 0, () -> x.bellOf(0, 4));
        });
        edge(0, cooling, "a bell without warmth", () -> {
            BellCores x = withRacks(hot(), 9);
            cast(x, 13, 0, 0);
            due("the cracks of two hours, which take 26", 2, () -> x.pass(2));
            due("without warmth none", 0, () -> x.pass(48));
            due("its cracks", 2, () -> x.bellOf(0, 5));
        });
        edge(0, cooling, "a bell in the hall", () -> {
            BellCores x = cracked(2);
            due("no crack comes", 0, () -> x.pass(48));
            due("it", "b60 0 310 -1 0 2 0 ", () -> bellAt(x, 0));
        });
    }

    private static void edgesOfCracks() {
        String crack = "If what it would lose, be there so much warmth or not, is greater than 6, and 2 for each of "
            + "its sand, together, it gets a crack, up to 9.";
        for (int i = 0; i < 4; i++) {
            int sand = i;
            edge(0, crack, "the sand " + sand + " stands " + (6 + 2 * sand), () -> {
                BellCores x = lone(2 + 2 * sand, sand);
                due("what it loses", 6 + 2 * sand, () -> x.rackOf(0, 2));
                due("cracks", 0, () -> x.pass(48));
            });
            edge(0, crack, "the sand " + sand + " does not stand " + (7 + 2 * sand), () -> {
                BellCores x = lone(3 + 2 * sand, sand);
                due("what it loses", 7 + 2 * sand, () -> x.rackOf(0, 2));
                due("cracks", 1, () -> x.pass(1));
                due("its cracks", 1, () -> x.bellOf(0, 5));
            });
        }
        edge(0, crack, "the sand 4 stands the most that can be lost", () -> {
            BellCores x = lone(9, 4);
            due("what it loses", 13, () -> x.rackOf(0, 2));
            due("cracks", 0, () -> x.pass(48));
        });
        edge(0, crack, "be there so much warmth or not", () -> {
            BellCores x = withRacks(hot(), 3);
            cast(x, 11, 0, 0);
            due("three hours, which take 21", 3, () -> x.pass(3));
            due("a warmth of 1", 1, () -> x.bellOf(0, 4));
            due("the crack of that", 1, () -> x.pass(1));
        });
        edge(0, crack, "up to 9", () -> {
            BellCores x = lone(3, 0);
            due("8 hours", 8, () -> x.pass(8));
            due("the ninth crack", 1, () -> x.pass(1));
            due("no tenth one", 0, () -> x.pass(1));
            due("its cracks", 9, () -> x.bellOf(0, 5));
            due("warmth goes on", 50, () -> x.bellOf(0, 4));
        });
        edge(0, "A crack that a bell with 9 does not get is not counted.", "by pass and by the accounts", () -> {
            BellCores x = lone(3, 0);
            due("10 hours at once", 9, () -> x.pass(10));
            dueAccount(x, "all cracks", 11, 9);
            due("an hour more", 0, () -> x.pass(1));
            BellCores rung = cracked(9);
            rung.ring(0);
            dueAccount(rung, "all cracks when one with 9 was rung", 11, 9);
        });
    }

    private static void edgesOfNotes() {
        String note = "The note of a bell is 100 less its core, and what it was filed, less its cracks.";
        edge(0, note, "the highest", () -> {
            BellCores x = hallOf(10);
            due("when cast", 90, () -> x.note(0, false));
            due("with all marks", 96, () -> x.file(0, 6));
        });
        edge(0, note, "the lowest", () -> {
            BellCores x = cracked(9);
            due("with all cracks", 31, () -> x.note(0, false));
            due("with all cracks again", 31, () -> x.note(0, true));
        });
        String ring = "A bell that is rung tells its note; if it has 2 cracks or more then, it gets one more behind "
            + "that, up to 9.";
        edge(0, ring, "no crack and 1", () -> {
            for (int cracks = 0; cracks < 2; cracks++) {
                BellCores x = cracked(cracks);
                int told = 40 - cracks;
                due("the note", told, () -> x.ring(0));
                due("the same note", told, () -> x.ring(0));
                due("its cracks", cracks, () -> x.bellOf(0, 5));
            }
        });
        edge(0, ring, "2 cracks", () -> {
            BellCores x = cracked(2);
            due("the note", 38, () -> x.ring(0));
            due("the cracks behind that", 3, () -> x.bellOf(0, 5));
            due("the next note", 37, () -> x.ring(0));
        });
        edge(0, ring, "8 and 9 cracks", () -> {
            BellCores x = cracked(8);
            due("the note with 8", 32, () -> x.ring(0));
            due("9 behind that", 9, () -> x.bellOf(0, 5));
            due("the note with 9", 31, () -> x.ring(0));
            due("still 9", 9, () -> x.bellOf(0, 5));
        });
        String file = "To file a bell makes its note higher by the marks; all marks of a bell are 6 at most.";
        edge(0, file, "6 at once, and one by one", () -> {
            BellCores x = hallOf(20, 20);
            due("6 at once", 86, () -> x.file(0, 6));
            for (int i = 1; i <= 6; i++) {
                int marks = i;
                due("mark " + marks, 80 + marks, () -> x.file(1, 1));
            }
            refused(x, "a seventh mark", 7, 6, () -> x.file(1, 1));
            refused(x, "one behind 6 at once", 7, 6, () -> x.file(0, 1));
        });
        edge(0, file, "6 and 7 by two calls", () -> {
            BellCores x = hallOf(20);
            x.file(0, 1);
            refused(x, "1 and 6", 7, 1, () -> x.file(0, 6));
            due("1 and 5", 86, () -> x.file(0, 5));
        });
    }

    private static void edgesOfPeals() {
        String peal = "The peal from a note is as long as there are, for the steps from the first one on, bells in "
            + "the hall with the note and this step together, one after the other, up to 8.";
        // The notes from 70 on, by the steps.
        int[] cores = {30, 28, 26, 25, 23, 21, 19, 18};
        edge(0, peal, "each length from 0 to 8", () -> {
            for (int length = 0; length <= 8; length++) {
                BellCores x = hallOf(Arrays.copyOf(cores, length));
                duePeal(x, 70, length);
            }
        });
        edge(0, "The steps of a peal are 0, 2, 4, 5, 7, 9, 11 and 12.", "notes between them", () -> {
            BellCores x = hallOf(30, 29, 28, 27, 26, 25, 24, 23, 22, 21, 20, 19);
            duePeal(x, 70, 7);
            x.file(11, 1);
            duePeal(x, 70, 6);
            BellCores last = hallOf(cores);
            last.file(7, 1);
            duePeal(last, 70, 7);
        });
        edge(0, peal, "one step that is missing", () -> {
            for (int missing = 0; missing < 8; missing++) {
                BellCores x = hallOf(cores);
                x.recast(missing);
                duePeal(x, 70, missing);
            }
        });
        edge(0, peal, "a bell that is not in the hall", () -> {
            BellCores x = hallOf(30);
            cast(x, 28, 4, 0);
            duePeal(x, 70, 1);
            x.pass(48);
            duePeal(x, 70, 1);
            x.take(1);
            duePeal(x, 70, 2);
        });
        edge(0, peal, "no bells", () -> {
            duePeal(new BellCores(), 0, 0);
            duePeal(new BellCores(), 70, 0);
        });
        edge(0, peal, "the notes of marks and cracks", () -> {
            duePeal(cracked(9), 31, 1);
            duePeal(cracked(9), 40, 0);
            BellCores x = hallOf(30, 29);
            duePeal(x, 70, 1);
            x.file(1, 1);
            duePeal(x, 70, 2);
            x.file(1, 1);
            duePeal(x, 70, 1);
        });
        edge(0, "Two bells with one note are no more for a peal than one.", "each step twice, and one missing", () -> {
            BellCores x = hallOf(30, 30, 28, 28);
            duePeal(x, 70, 2);
            x.recast(2);
            duePeal(x, 70, 2);
            x.recast(2);
            duePeal(x, 70, 1);
        });
    }

    static void test() {
        edgesOfBells();
        edgesOfCooling();
        edgesOfCracks();
        edgesOfNotes();
        edgesOfPeals();
    }
}
