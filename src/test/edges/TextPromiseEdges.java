import java.util.function.Supplier;

/** Promises 25 to 31: lines, texts and reasons. */
final class TextPromiseEdges extends Foundries {
    private static void dueLine(BellCores x, String want, Call call) {
        due("the length of '" + want + "'", want.length(), call);
        due("the line", want, () -> lineOf(x));
    }

    private static void edgesOfLines() {
        edge(25, noSuch("bell"), "of none, of one and of 12; the line before stays", () -> {
            BellCores none = withRacks(hot(), 1);
            none.rackLine(0);
            among(none, 0, INDEX, BellCores::line);
            BellCores one = hallOf(10);
            one.line(0);
            among(one, 1, INDEX, BellCores::line);
            BellCores all = twelve(2000);
            all.line(11);
            among(all, 12, INDEX, BellCores::line);
        });
        String line = "Writes a line about a bell, in place of the line before: its number, \"@\" and its rack, or "
            + "\"@h\" in the hall, \"n\" and its note, and \"!\" for each crack";
        edge(25, line, "the first and the last bell and rack", () -> {
            BellCores x = twelve(2000);
            dueLine(x, "0@0n90", () -> x.line(0));
            dueLine(x, "9@3n90", () -> x.line(9));
            dueLine(x, "10@3n90", () -> x.line(10));
            dueLine(x, "11@3n90", () -> x.line(11));
            x.pass(20);
            x.take(11);
            dueLine(x, "11@hn90", () -> x.line(11));
        });
        edge(25, "as in \"3@0n64!!\".", "the document's own", () -> {
            BellCores x = withRacks(hot(), 9, 1);
            cast(x, 10, 4, 1);
            cast(x, 10, 4, 1);
            cast(x, 10, 4, 1);
            cast(x, 34, 0, 0);
            x.pass(2);
            dueLine(x, "3@0n64!!", () -> x.line(3));
        });
        edge(25, line, "no crack, one and 9; a longer line before", () -> {
            BellCores x = cracked(9);
            dueLine(x, "0@hn31!!!!!!!!!", () -> x.line(0));
            dueLine(x, "1@0n90", () -> x.line(1));
            BellCores one = cracked(1);
            dueLine(one, "0@hn39!", () -> one.line(0));
        });
        edge(26, noSuch("rack"), "of none, of one and of 4; the line before stays", () -> {
            among(settled(new BellCores()), 0, INDEX, BellCores::rackLine);
            BellCores one = lone(1, 0);
            one.rackLine(0);
            among(one, 1, INDEX, BellCores::rackLine);
            BellCores all = twelve(2000);
            all.line(0);
            among(all, 4, INDEX, BellCores::rackLine);
        });
        edge(26, noSuch("rack"), "-1 is none, with bells in the hall", () ->
            among(hallOf(10, 20), 1, INDEX, BellCores::rackLine));
        String rack = "Writes a line about a rack, in place of the line before: for each bell on it, by their "
            + "numbers, the number, \"w\" and its warmth, with a blank between two";
        edge(26, "as in \"0w40 2w17\".", "the document's own", () -> {
            BellCores x = withRacks(hot(), 1, 1);
            cast(x, 24, 4, 0);
            x.pass(1);
            cast(x, 10, 4, 1);
            cast(x, 10, 4, 0);
            x.pass(1);
            dueLine(x, "0w40 2w17", () -> x.rackLine(0));
        });
        edge(26, rack, "no bell", () -> {
            BellCores x = cracked(3);
            x.line(0);
            dueLine(x, "", () -> x.rackLine(1));
            throwing(x, "its first character", INDEX, () -> x.character(0));
        });
        edge(26, rack, "one bell, and 3", () -> {
            BellCores x = twelve(2000);
            dueLine(x, "0w20 1w20 2w20", () -> x.rackLine(0));
            dueLine(x, "9w20 10w20 11w20", () -> x.rackLine(3));
            x.pass(20);
            dueLine(x, "9w0 10w0 11w0", () -> x.rackLine(3));
            x.take(9);
            x.take(11);
            dueLine(x, "10w0", () -> x.rackLine(3));
            BellCores warm = lone(1, 0);
            dueLine(warm, "0w120", () -> warm.rackLine(0));
        });
    }

    private static void edgesOfCharacters() {
        edge(27, noSuch("index"), "of an empty line, of one of 6 and of one of 16", () -> {
            among(settled(new BellCores()), 0, INDEX, (x, n) -> (int) x.character(n));
            BellCores ofBell = twelve(2000);
            ofBell.line(0);
            among(ofBell, 6, INDEX, (x, n) -> (int) x.character(n));
            BellCores ofRack = twelve(2000);
            ofRack.rackLine(3);
            among(ofRack, 16, INDEX, (x, n) -> (int) x.character(n));
        });
        edge(27, "Returns a character of the line, which is empty at first.", "the first and the last one", () -> {
            BellCores x = hallOf(25);
            x.line(0);
            due("the first", '0', () -> x.character(0));
            due("the last", '5', () -> x.character(5));
            throwing(x, "behind it", INDEX, () -> x.character(6));
        });
        String full = "Throws `IllegalStateException` if the input contains 60 characters";
        edge(28, full, "the 60th and one more", () -> {
            BellCores x = new BellCores();
            for (int i = 1; i <= 60; i++) {
                int count = i;
                due("character " + count, count, () -> x.append('x'));
            }
            throwing(x, "one more", STATE, () -> x.append('x'));
            dueAccount(x, "the characters", 14, 60);
        });
        edge(28, full, "it is empty again behind run", () -> {
            BellCores x = new BellCores();
            type(x, "x".repeat(60));
            due("run", ARGUMENT, x::run);
            due("the first one", 1, () -> x.append('c'));
        });
        edge(28, "Returns the characters in the input then.", "the least and the greatest character", () -> {
            BellCores x = new BellCores();
            due("the least", 1, () -> x.append('\0'));
            due("the greatest", 2, () -> x.append('\uffff'));
            due("255", 3, () -> x.append('\u00ff'));
        });
    }

    private static void edgesOfRun() {
        String error = wrongArgument("the text has an error, or the method for an order would throw another "
            + "exception than UnsupportedOperationException; if the text has no error, its position is -1");
        edge(29, error, "an empty input", () -> {
            BellCores x = settled(new BellCores());
            String before = stateOf(x);
            due("run", ARGUMENT, x::run);
            due("the error position", 0, x::errorPosition);
            due("the state behind it", before, () -> stateOf(x));
        });
        edge(29, error, "an error at the first and at the last character", () -> {
            BellCores x = settled(new BellCores());
            String before = stateOf(x);
            due("the first", ARGUMENT, () -> run(x, "x" + "c".repeat(59)));
            due("the error position", 0, x::errorPosition);
            due("the last", ARGUMENT, () -> run(x, "c1;".repeat(19) + "c1x"));
            due("the error position", 59, x::errorPosition);
            due("the state behind them", before, () -> stateOf(x));
        });
        orderEnds("c", new int[] {1, 20}, new String[] {"c0", "c00", "c21", "c99"});
        orderEnds("b", new int[] {1, 500}, new String[] {"b0", "b000", "b501", "b999"});
        orderEnds("h", new int[] {1, 48}, new String[] {"h0", "h00", "h49", "h99"});
        orderEnds("r", new int[] {1, 9}, new String[] {"r0"});
        edge(29, error, "the ends of m", () -> {
            dueOrders(foundry(1000, 1000), new String[] {"m10s0", "m60s0", "m10s4", "m60s4"},
                new String[] {"m9s0", "m61s0", "m10s5", "m60s9", "m00s0", "m99s4"});
        });
        edge(29, error, "the ends of p", () -> {
            dueOrders(withRacks(eightMoulds(), 1, 2, 3, 4), new String[] {"p0>0", "p7>0", "p0>3", "p7>3"},
                new String[] {"p8>0", "p9>0", "p0>4", "p0>9"});
            dueOrders(hot(), new String[] {}, new String[] {"p0>0", "r1;p0>0", "m10s0;p0>0"});
        });
        edge(29, error, "the ends of t", () -> {
            dueOrders(twelveCold(), new String[] {"t0", "t00", "t11"}, new String[] {"t12", "t99"});
            dueOrders(hot(), new String[] {}, new String[] {"t0"});
        });
        edge(29, error, "the ends of k", () -> {
            dueOrders(twelveCold(0, 11), new String[] {"k0", "k00", "k11"}, new String[] {"k12", "k99"});
            dueOrders(hot(), new String[] {}, new String[] {"k0"});
        });
        edgesOfRunRefusals();
        edgesOfRunEnds();
    }

    private static void orderEnds(String letter, int[] taken, String[] wrong) {
        String error = wrongArgument("the text has an error, or the method for an order would throw another "
            + "exception than UnsupportedOperationException; if the text has no error, its position is -1");
        edge(29, error, "the ends of " + letter, () -> {
            String[] orders = new String[taken.length];
            for (int i = 0; i < taken.length; i++) {
                orders[i] = letter + taken[i];
            }
            dueOrders(foundry(1000, 1000), orders, wrong);
        });
    }

    /** Each order that is taken is undone at once; each wrong one changes nothing and has no error position. */
    private static void dueOrders(BellCores x, String[] taken, String[] wrong) {
        String before = stateOf(x);
        for (String order : taken) {
            due(order, 1, () -> run(x, order));
            dueAccount(x, "the changes by " + order, 15, 1);
            due("the error position of " + order, -1, x::errorPosition);
            due("undo of " + order, 0, x::undo);
        }
        for (String order : wrong) {
            answerOf(() -> run(x, "x"));
            due(order, ARGUMENT, () -> run(x, order));
            due("the error position of " + order, -1, x::errorPosition);
            dueAccount(x, "the input behind " + order, 14, 0);
        }
        due("the state behind them", before + NONE, () -> stateOf(x) + answerOf(() -> x.refusal(false)));
    }

    private static void edgesOfRunRefusals() {
        String refused = "Throws `UnsupportedOperationException` if it is refused for a reason of the method for an "
            + "order; the reason is kept for refusal";
        edge(29, refused, "b, 1", () -> {
            refusedText(foundry(1400, 1501), "c1;b500", 1, 2000);
            due("a pound less", 2, () -> run(foundry(1400, 1501), "c1;b499"));
            refusedText(foundry(1400, 1001), "b500;b499;b1", 1, 2000);
        });
        edge(29, refused, "m, 1", () -> {
            refusedText(eightMoulds(), "c1;m10s0", 1, 8);
            refusedText(hot(), "m10s0;m10s0;m10s0;m10s0;m10s0;m10s0;m10s0;m10s0;m10s0", 1, 8);
            due("8 of them", 8, () -> run(hot(), "m10s0;m10s0;m10s0;m10s0;m10s0;m10s0;m10s0;m10s0"));
        });
        edge(29, refused, "r, 1", () -> {
            refusedText(fourRacks(), "c1;r1", 1, 4);
            refusedText(hot(), "r1;r2;r3;r4;r5", 1, 4);
            due("4 of them", 4, () -> run(hot(), "r1;r2;r3;r4"));
        });
        edge(29, refused, "p, 1 for the bells", () -> refusedText(twelve(2000), "c1;m10s0;p0>0", 1, 12));
        edge(29, refused, "p, 1 for those on the rack", () -> {
            refusedText(withRacks(hot(), 1), "m10s0;p0>0;m10s0;p0>0;m10s0;p0>0;m10s0;p0>0", 1, 3);
            due("3 of them", 6, () -> run(withRacks(hot(), 1), "m10s0;p0>0;m10s0;p0>0;m10s0;p0>0"));
        });
        edge(29, refused, "p, 2", () -> {
            refusedText(foundry(1400, 119), "r1;m10s0;m10s0;p0>0;p0>0", 2, 1);
            due("with just enough", 5, () -> run(foundry(1400, 120), "r1;m10s0;m10s0;p0>0;p0>0"));
        });
        edge(29, refused, "p, 3", () -> {
            refusedText(foundry(785, 2000), "r1;m10s0;h2;p0>0", 3, 5);
            due("with just enough", 4, () -> run(foundry(785, 2000), "r1;m10s0;h1;p0>0"));
        });
        edge(29, refused, "t, 5", () -> {
            refusedText(hallOf(10, 20), "c1;t1", 5, -1);
            refusedText(cracked(3), "t1;t2;t1", 5, -1);
        });
        edge(29, refused, "t, 4", () -> {
            refusedText(lone(1, 4), "h23;t0", 4, 5);
            due("an hour later", 2, () -> run(lone(1, 4), "h24;t0"));
        });
        edge(29, refused, "k, 5", () -> {
            refusedText(cracked(3), "k0;k0", 5, 0);
            refusedText(twelve(2000), "c1;k11", 5, 3);
        });
        edge(29, refused, "k, 1 for the pounds", () -> {
            refusedText(hallOf(11), "b7;k0", 1, 2000);
            due("a pound less", 2, () -> run(hallOf(11), "b6;k0"));
        });
    }

    /** A text of one order and the call of its method lead from the same foundry to the same one. */
    private static void sameAs(String order, Supplier<BellCores> foundry, Asked call) {
        BellCores byText = foundry.get();
        BellCores byCall = foundry.get();
        due(order, 1, () -> run(byText, order));
        call.answer(byCall, 0);
        due("the state behind " + order, stateOf(byCall), () -> stateOf(byText));
    }

    private static void edgesOfRunEnds() {
        String empty = "Carries out the text in the input, which is empty afterwards, also if an exception is thrown.";
        edge(29, empty, "each order as its method, with its least and its greatest numbers", () -> {
            Supplier<BellCores> moulds = () -> withRacks(eightMoulds(), 1, 2, 3, 4);
            sameAs("c1", () -> lone(9, 0), (x, n) -> x.coal(1));
            sameAs("c20", () -> foundry(20, 0), (x, n) -> x.coal(20));
            sameAs("b1", () -> lone(9, 0), (x, n) -> x.bronze(1));
            sameAs("b500", () -> foundry(20, 1500), (x, n) -> x.bronze(500));
            sameAs("m10s0", () -> lone(9, 0), (x, n) -> x.mould(10, 0));
            sameAs("m60s4", () -> lone(9, 0), (x, n) -> x.mould(60, 4));
            sameAs("r1", () -> lone(9, 0), (x, n) -> x.rack(1));
            sameAs("r9", () -> lone(9, 0), (x, n) -> x.rack(9));
            sameAs("p0>0", moulds, (x, n) -> x.pour(0, 0));
            sameAs("p7>3", moulds, (x, n) -> x.pour(7, 3));
            sameAs("h1", () -> lone(9, 0), (x, n) -> x.pass(1));
            sameAs("h48", () -> lone(3, 0), (x, n) -> x.pass(48));
            sameAs("t0", () -> twelveCold(), (x, n) -> x.take(0));
            sameAs("t11", () -> twelveCold(), (x, n) -> x.take(11));
            sameAs("k0", () -> twelveCold(0, 11), (x, n) -> x.recast(0));
            sameAs("k11", () -> twelveCold(0, 11), (x, n) -> x.recast(11));
        });
        edge(29, empty, "behind a text, an error, a wrong order and a refusal", () -> {
            BellCores x = new BellCores();
            for (String text : new String[] {"c1", "c1;", "c1;c0", "r1;r1;r1;r1;r1", ""}) {
                answerOf(() -> run(x, text));
                dueAccount(x, "the input behind '" + text + "'", 14, 0);
                due("the next text", 1, () -> run(x, "h1"));
            }
        });
        edge(29, "Returns the number of orders.", "one and the most", () -> {
            due("one", 1, () -> run(new BellCores(), "c1"));
            due("20", 20, () -> run(new BellCores(), "h1;".repeat(19) + "h1"));
        });
        String position = "Returns the error position, or -1 if that text had no error or run has not been called.";
        edge(30, position, "run has not been called", () -> {
            BellCores x = new BellCores();
            due("of a new one", -1, x::errorPosition);
            type(x, "xx");
            due("with an input", -1, x::errorPosition);
        });
        edge(30, position, "the text had no error", () -> {
            BellCores x = new BellCores();
            answerOf(() -> run(x, "cx"));
            due("behind an error", 1, x::errorPosition);
            due("a text without one", 1, () -> run(x, "c1"));
            due("behind it", -1, x::errorPosition);
            answerOf(() -> run(x, "x"));
            answerOf(() -> run(x, "t0"));
            due("behind a wrong order", -1, x::errorPosition);
            answerOf(() -> run(x, "x"));
            answerOf(() -> run(x, "r1;r1;r1;r1;r1"));
            due("behind a refusal", -1, x::errorPosition);
        });
        edge(30, position, "the least and the greatest", () -> {
            dueError("", 0);
            dueError("c1;".repeat(20), 60);
        });
    }

    private static void edgesOfRefusal() {
        String none = "Throws `NoSuchElementException` if nothing was refused";
        edge(31, none, "a new one", () -> {
            BellCores x = settled(new BellCores());
            throwing(x, "the reason", NONE, () -> x.refusal(false));
            throwing(x, "the detail", NONE, () -> x.refusal(true));
        });
        edge(31, none, "only other exceptions were thrown", () -> {
            BellCores x = new BellCores();
            Call[] calls = {() -> x.coal(0), () -> x.bronze(501), () -> x.mould(9, 0), () -> x.rack(0),
                () -> x.strike(0),
                () -> x.pour(0, 0), () -> x.take(0), () -> x.ring(0), () -> x.file(0, 1), () -> x.recast(0), x::undo,
                x::restore, x::longest, x::first, x::meanNote, () -> run(x, "t0"), () -> run(x, "c")};
            for (Call call : calls) {
                answerOf(call);
            }
            due("the reason", NONE, () -> x.refusal(false));
            due("the detail", NONE, () -> x.refusal(true));
        });
        edge(31, "Returns the reason of the latest refusal.", "the second of two, and behind other exceptions", () -> {
            BellCores x = readyForAll();
            refused(x, "a rack in use", 6, 2, () -> x.strike(0));
            refused(x, "a bell in the hall", 5, -1, () -> x.take(0));
            x.coal(1);
            answerOf(() -> x.coal(0));
            answerOf(() -> run(x, "k9"));
            due("the reason", 5, () -> x.refusal(false));
            due("the detail", -1, () -> x.refusal(true));
            due("the reason once more", 5, () -> x.refusal(false));
        });
    }

    static void test() {
        edgesOfLines();
        edgesOfCharacters();
        edgesOfRun();
        edgesOfRefusal();
    }
}
