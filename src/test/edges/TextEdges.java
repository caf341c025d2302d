/** Texts, ahead of the promises. */
final class TextEdges extends Foundries {
    private static void edgesOfInput() {
        String input = "The input has at most 60 characters.";
        edge(0, input, "60 of them are a text", () -> {
            BellCores x = new BellCores();
            String text = "c1;".repeat(19) + "c20";
            due("its length", 60, () -> text.length());
            due("its orders", 20, () -> run(x, text));
            dueAccount(x, "the loads", 9, 39);
        });
        edge(0, input, "60 of them that end too early", () -> dueError("c1;".repeat(20), 60));
        edge(0, input, "a 61st is not taken", () -> {
            BellCores x = new BellCores();
            type(x, "c1;".repeat(19) + "c20");
            throwing(x, "one more", STATE, () -> x.append('0'));
            due("the text without it", 20, x::run);
            due("room again", 1, () -> x.append('c'));
        });
        String text = "A text consists of orders with a semicolon between two of them";
        edge(0, text, "no order", () -> dueError("", 0));
        edge(0, text, "one order", () -> dueError("c1", -1));
        edge(0, text, "two orders", () -> {
            dueError("c1;h1", -1);
            dueError("c1h1", 2);
        });
        edge(0, text, "a semicolon ahead, behind, alone, or two of them", () -> {
            dueError(";c1", 0);
            dueError("c1;", 3);
            dueError(";", 0);
            dueError("c1;;c1", 3);
        });
        String numbers = "Numbers have one or two digits, that of bronze one to three.";
        edge(0, numbers, "of one or two digits", () -> {
            for (String letter : new String[] {"c", "h", "t", "k"}) {
                dueError(letter, 1);
                dueError(letter + "1", -1);
                dueError(letter + "12", -1);
                dueError(letter + "123", 3);
            }
            dueError("ms1", 1);
            dueError("m1s1", -1);
            dueError("m12s1", -1);
            dueError("m123s1", 3);
        });
        edge(0, numbers, "that of bronze", () -> {
            dueError("b", 1);
            dueError("b1", -1);
            dueError("b12", -1);
            dueError("b123", -1);
            dueError("b1234", 4);
        });
        edge(0, numbers, "with a 0 ahead", () -> {
            BellCores x = new BellCores();
            due("the orders", 4, () -> run(x, "c01;b001;b010;m10s0"));
            dueAccount(x, "the loads", 9, 1);
            dueAccount(x, "the pounds", 7, 11);
        });
        edge(0, "and a digit makes a mould with this core and sand; \"r\" and a digit sets a rack; \"p\", a digit, "
            + "\">\" and a digit pours a mould onto a rack;", "one digit and no more", () -> {
            dueError("m10s", 4);
            dueError("m10s4", -1);
            dueError("m10s12", 5);
            dueError("r", 1);
            dueError("r9", -1);
            dueError("r12", 2);
            dueError("p>0", 1);
            dueError("p0>", 3);
            dueError("p0>0", -1);
            dueError("p12>0", 2);
            dueError("p0>12", 4);
        });
    }

    /** What may follow a beginning, and which of that makes a whole text; all else is an error at this place. */
    private static void follows(String beginning, String followers, String whole) {
        String position = "The error position of a text is the offset of the first character that cannot continue "
            + "such a text, or the length of the text if it ends too early.";
        edge(0, position, "behind '" + beginning + "'", () -> {
            for (int i = 0; i < 260; i++) {
                char c = i < 256 ? (char) i : new char[] {0x163, 0x130, 0x660, 0xffff}[i - 256];
                int after = whole.indexOf(c) >= 0 ? -1 : beginning.length() + 1;
                dueError(beginning + c, followers.indexOf(c) >= 0 ? after : beginning.length());
            }
        });
    }

    private static void edgesOfErrorPositions() {
        follows("", "cbmrphtk", "");
        for (String letter : new String[] {"c", "h", "t", "k"}) {
            follows(letter, DIGITS, DIGITS);
            follows(letter + "0", DIGITS + ";", DIGITS);
            follows(letter + "99", ";", "");
        }
        follows("b", DIGITS, DIGITS);
        follows("b0", DIGITS + ";", DIGITS);
        follows("b99", DIGITS + ";", DIGITS);
        follows("b999", ";", "");
        follows("m", DIGITS, "");
        follows("m9", DIGITS + "s", "");
        follows("m90", "s", "");
        follows("m0s", DIGITS, DIGITS);
        follows("m10s", DIGITS, DIGITS);
        follows("m10s0", ";", "");
        follows("r", DIGITS, DIGITS);
        follows("r0", ";", "");
        follows("p", DIGITS, "");
        follows("p9", ">", "");
        follows("p9>", DIGITS, DIGITS);
        follows("p9>0", ";", "");
        follows("c1;", "cbmrphtk", "");
        follows("p0>0;k", DIGITS, DIGITS);
    }

    private static void edgesOfCarryingOut() {
        String carried = "A text is carried out if each order can be, one after the other; else nothing of it is, "
            + "and the first order that cannot be decides what is thrown.";
        edge(0, carried, "an order that only an earlier one makes possible", () -> {
            BellCores x = foundry(1400, 0);
            due("the orders", 5, () -> run(x, "b60;m10s4;r1;p0>0;h4"));
            due("the bell", "b10 4 60 0 0 0 0 ", () -> bellAt(x, 0));
            due("its hall and its end", 2, () -> run(x, "t0;k0"));
            dueAccount(x, "the bells", 4, 0);
        });
        edge(0, carried, "the same orders the other way round", () -> {
            BellCores x = foundry(1400, 60);
            String before = stateOf(x);
            due("a pour ahead of its rack", ARGUMENT, () -> run(x, "m10s4;p0>0;r1"));
            due("a pour ahead of its mould", ARGUMENT, () -> run(x, "r1;p0>0;m10s4"));
            due("a bell ahead of its pour", ARGUMENT, () -> run(x, "r1;m10s4;t0;p0>0"));
            due("the state behind them", before, () -> stateOf(x));
        });
        edge(0, carried, "the last order is refused", () -> {
            BellCores x = foundry(1400, 500);
            refusedText(x, "c1;b1;m10s0;r1;p0>0;h1;t0", 4, 15);
            refusedText(x, "h48;r1;r1;r1;r1;r1", 1, 4);
        });
        edge(0, carried, "the first order is refused", () -> {
            BellCores x = foundry(1400, 2000);
            refusedText(x, "b1;c1;r1", 1, 2000);
        });
        edge(0, carried, "a refused order ahead of one that is thrown for another exception", () -> {
            BellCores x = withMoulds(withRacks(foundry(20, 0), 1), 10);
            refusedText(x, "c1;p0>0;c0", 2, 60);
        });
        edge(0, carried, "a refused order behind one that is thrown for another exception", () -> {
            BellCores x = withMoulds(withRacks(foundry(20, 0), 1), 10);
            String before = stateOf(x);
            due("the text", ARGUMENT, () -> run(x, "c1;c0;p0>0"));
            due("the state behind it", before + NONE, () -> stateOf(x) + answerOf(() -> x.refusal(false)));
        });
        edge(0, carried, "two refused orders", () -> {
            BellCores x = withMoulds(withRacks(foundry(20, 2000), 1), 10);
            refusedText(x, "p0>0;b1", 3, 760);
            refusedText(x, "b1;p0>0", 1, 2000);
        });
        String noReason = "A text that is not carried out because an order would throw another exception than "
            + "UnsupportedOperationException keeps no reason.";
        edge(0, noReason, "none was there, or an earlier one", () -> {
            BellCores x = new BellCores();
            due("the text", ARGUMENT, () -> run(x, "c1;t0"));
            due("no reason", NONE, () -> x.refusal(false));
            due("a refusal", REFUSED, () -> run(x, "r1;r1;r1;r1;r1"));
            due("the text again", ARGUMENT, () -> run(x, "c1;t0"));
            due("the earlier reason", 1, () -> x.refusal(false));
            due("the earlier detail", 4, () -> x.refusal(true));
        });
    }

    static void test() {
        edgesOfInput();
        edgesOfErrorPositions();
        edgesOfCarryingOut();
    }
}
