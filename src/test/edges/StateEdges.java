/** Reasons, changes, undo and exceptions, ahead of the promises. */
final class StateEdges extends Foundries {
    private static void edgesOfReasons() {
        String first = "Something is refused for the first that applies of the reasons that its method names, in the "
            + "order in which it names them, with a detail";
        edge(0, first, "12 bells, a full rack, no bronze and no heat", () -> {
            BellCores x = lackingAll();
            refused(x, "pour", 1, 12, () -> x.pour(0, 0));
        });
        edge(0, first, "a full rack, no bronze and no heat", () -> {
            BellCores x = lackingRoomOnRacks();
            refused(x, "pour", 1, 3, () -> x.pour(0, 1));
        });
        edge(0, first, "no bronze and no heat", () -> {
            BellCores x = lackingRoomOnRacks();
            refused(x, "pour with 54 pounds", 2, 256, () -> x.pour(0, 0));
        });
        edge(0, first, "no heat, and then nothing", () -> {
            BellCores x = lackingRoomOnRacks();
            x.bronze(256);
            x.coal(20);
            x.coal(18);
            refused(x, "pour with the heat 1160", 3, 20, () -> x.pour(0, 0));
            x.coal(1);
            due("pour with the heat 1190", 11, () -> x.pour(0, 0));
        });
        edge(0, first, "a bell to recast on a rack, and too many pounds", () -> {
            BellCores x = lone(1, 4);
            x.bronze(310);
            settled(x);
            refused(x, "on the rack", 5, 0, () -> x.recast(0));
            x.pass(24);
            x.take(0);
            refused(x, "in the hall", 1, 2000, () -> x.recast(0));
        });
        edge(0, "1, there would be more than 8 moulds, 4 racks, 12 bells, 3 bells on the rack, or 2000 pounds: this "
            + "greatest number;", "each of the five, when all is full", () -> {
            allFullRefuses("moulds", 8, (x, n) -> x.mould(10, 0));
            allFullRefuses("racks", 4, (x, n) -> x.rack(1));
            allFullRefuses("bells", 12, (x, n) -> x.pour(0, 0));
            allFullRefuses("pounds", 2000, (x, n) -> x.bronze(1));
            allFullRefuses("pounds by a recast", 2000, (x, n) -> x.recast(0));
            BellCores rack = lackingRoomOnRacks();
            refused(rack, "bells on the rack", 1, 3, () -> rack.pour(0, 3));
        });
        edgesOfDetails();
    }

    /** 12 bells, a cold furnace without pounds, and a mould with the core 60. */
    private static BellCores lackingAll() {
        BellCores x = twelve(720);
        letHoursGoBy(x, 288);
        return withMoulds(x, 60);
    }

    /** The same with a bell less on rack 0, of which 54 pounds came back. */
    private static BellCores lackingRoomOnRacks() {
        BellCores x = lackingAll();
        x.take(0);
        x.recast(0);
        return settled(x);
    }

    /** 8 moulds, 4 racks, 12 bells, of which the first is in the hall, and 2000 pounds. */
    private static void allFullRefuses(String what, int greatest, Asked call) {
        BellCores x = withMoulds(twelveCold(0), 10, 10, 10, 10, 10, 10, 10, 10);
        bringPounds(x, 720);
        settled(x);
        refused(x, what, 1, greatest, () -> call.answer(x, 0));
    }

    private static void edgesOfDetails() {
        edge(0, "2, there is not enough bronze: how many pounds lack;", "the most and the least", () -> {
            BellCores x = withMoulds(withRacks(foundry(1400, 0), 1), 60);
            refused(x, "all lack", 2, 310, () -> x.pour(0, 0));
            x.bronze(309);
            refused(x, "one lacks", 2, 1, () -> x.pour(0, 0));
        });
        edge(0, "3, there is not enough heat: how much lacks;", "the most and the least", () -> {
            BellCores x = withMoulds(withRacks(foundry(20, 500), 1), 60);
            refused(x, "from 20", 3, 1160, () -> x.pour(0, 0));
            BellCores least = exactly(1179, 500, 60);
            refused(least, "from 1179", 3, 1, () -> least.pour(0, 0));
        });
        edge(0, "4, the bell has warmth: how much;", "the most and the least", () -> {
            BellCores x = lone(3, 4);
            refused(x, "all of it", 4, 120, () -> x.take(0));
            x.pass(17);
            refused(x, "the last of it", 4, 1, () -> x.take(0));
            x.pass(1);
            due("none of it", 0, () -> x.take(0));
        });
        edge(0, "5, the bell is in the hall, or is not: its rack, or -1 for the hall;",
            "the hall, and the last rack", () -> {
            BellCores take = twelveCold(0);
            refused(take, "take in the hall", 5, -1, () -> take.take(0));
            BellCores ring = twelveCold(0);
            refused(ring, "ring on rack 3", 5, 3, () -> ring.ring(11));
            BellCores file = twelveCold(0);
            refused(file, "file on rack 2", 5, 2, () -> file.file(8, 6));
            BellCores recast = twelveCold(0);
            refused(recast, "recast on rack 0", 5, 0, () -> recast.recast(1));
        });
        edge(0, "6, there are bells on the rack: how many;", "1, 2 and 3", () -> {
            BellCores x = withRacks(hot(), 1, 1);
            for (int i = 1; i <= 3; i++) {
                int count = i;
                cast(x, 10, 4, 0);
                settled(x);
                refused(x, "strike(0)", 6, count, () -> x.strike(0));
            }
            due("the other one", 1, () -> x.strike(1));
        });
        edge(0, "7, the bell would have more marks than 6: how many it has.", "1 and 6", () -> {
            BellCores x = hallOf(20);
            x.file(0, 1);
            refused(x, "6 behind 1", 7, 1, () -> x.file(0, 6));
            x.file(0, 5);
            refused(x, "1 behind 6", 7, 6, () -> x.file(0, 1));
        });
    }

    /** It adds one change; undo of it brings back the state and the number of changes. */
    private static void dueChange(String what, BellCores x, Asked call) {
        String before = stateOf(x);
        int changes = x.account(15);
        due(what + " succeeds", true, () -> call.answer(x, 0) instanceof Integer);
        dueAccount(x, "the changes behind " + what, 15, changes + 1);
        due("undo of " + what, changes, x::undo);
        due("the state when " + what + " is undone", before, () -> stateOf(x));
    }

    private static void change(String which, Asked call) {
        edge(0, CHANGES, which, () -> {
            BellCores x = readyForAll();
            String before = stateOf(x);
            dueChange(which, x, call);
            due("undo without a change", STATE, x::undo);
            call.answer(x, 0);
            due("it is seen", false, () -> before.equals(stateOf(x)));
        });
    }

    private static void edgesOfChanges() {
        change("coal", (x, n) -> x.coal(1));
        change("bronze", (x, n) -> x.bronze(1));
        change("mould", (x, n) -> x.mould(60, 4));
        change("smash", (x, n) -> x.smash(n));
        change("rack", (x, n) -> x.rack(9));
        change("strike", (x, n) -> x.strike(1));
        change("pour", (x, n) -> x.pour(n, 1));
        change("pass", (x, n) -> x.pass(1));
        change("take", (x, n) -> x.take(1));
        change("ring", (x, n) -> x.ring(n));
        change("file", (x, n) -> x.file(n, 6));
        change("recast", (x, n) -> x.recast(n));
        change("run, of one order", (x, n) -> run(x, "c1"));
        change("run, of all orders", (x, n) -> run(x, "c1;b1;m10s0;r1;p0>1;h1;t1;k0"));
        edge(0, CHANGES, "what succeeds, and is hardly seen", () -> {
            dueChange("coal at the greatest heat", hot(), (x, n) -> x.coal(1));
            dueChange("an hour at the least heat", foundry(20, 0), (x, n) -> x.pass(1));
            dueChange("ring of a sound bell", hallOf(20), (x, n) -> x.ring(0));
            dueChange("ring of a bell with 9 cracks", cracked(9), (x, n) -> x.ring(0));
        });
        edge(0, CHANGES, "calls that ask or write", () -> {
            BellCores x = readyForAll();
            String before = stateOf(x);
            askAll(x);
            due("the state behind them", before, () -> stateOf(x));
            due("undo", STATE, x::undo);
        });
        edge(0, CHANGES, "calls that do not succeed", () -> {
            BellCores x = readyForAll();
            String before = stateOf(x);
            failAll(x);
            due("undo without a change", STATE, x::undo);
            x.coal(1);
            failAll(x);
            due("undo of the coal ahead of them", 0, x::undo);
            due("the state behind it", before, () -> stateOf(x));
        });
    }

    /** Each call that is no change, but undo, restore and run. */
    private static void askAll(BellCores x) {
        Call[] calls = {() -> x.mouldOf(0, 2), () -> x.rackOf(0, 2), () -> x.bellOf(0, 5), () -> x.note(0, false),
            () -> x.note(0, true), () -> x.wouldCrack(1, 48), () -> x.coldIn(1), () -> x.peal(38, false),
            () -> x.peal(38, true), x::longest, () -> x.ranked(0), () -> x.pourable(true), () -> x.pourable(false),
            x::first, () -> x.line(0), () -> x.rackLine(0), () -> x.character(0), () -> x.append('c'),
            x::errorPosition, () -> x.account(6), x::isWell, x::meanNote, x::soundShare, x::save};
        for (Call call : calls) {
            due("it is answered", false, () -> String.valueOf(answerOf(call)).endsWith("Exception"));
        }
    }

    /** A call for each exception of each method that can throw it in a foundry that is ready for all. */
    private static void failAll(BellCores x) {
        Call[] calls = {() -> x.coal(0), () -> x.bronze(0), () -> x.mould(9, 0), () -> x.mould(10, 5),
            () -> x.smash(-1), () -> x.mouldOf(9, 0), () -> x.mouldOf(0, 5), () -> x.rack(0), () -> x.strike(2),
            () -> x.strike(0), () -> x.rackOf(2, 0), () -> x.rackOf(0, 3), () -> x.pour(9, 0), () -> x.pour(0, 2),
            () -> x.pass(0), () -> x.take(3), () -> x.take(0), () -> x.ring(3), () -> x.ring(1), () -> x.file(3, 1),
            () -> x.file(0, 7), () -> x.file(1, 1), () -> x.recast(3), () -> x.recast(1), () -> x.bellOf(3, 0),
            () -> x.bellOf(0, 7), () -> x.note(3, true), () -> x.wouldCrack(3, 0), () -> x.wouldCrack(0, 49),
            () -> x.coldIn(3), () -> x.peal(101, true), () -> x.ranked(3), () -> x.line(3), () -> x.rackLine(2),
            () -> x.character(99), () -> run(x, "c1;c"), () -> run(x, "c1;c0"), () -> run(x, "c1;t0"),
            () -> x.account(16)};
        for (Call call : calls) {
            due("it throws", true, () -> String.valueOf(answerOf(call)).endsWith("Exception"));
        }
    }

    private static void edgesOfUndoing() {
        String latest = "The latest 8 can be undone; restore forgets all.";
        edge(0, latest, "8 changes", () -> {
            BellCores x = new BellCores();
            coalTimes(x, 8);
            dueAccount(x, "the changes", 15, 8);
            undoAll(x, 8);
            dueAccount(x, "the heat", 0, 20);
            throwing(x, "one more undo", STATE, x::undo);
        });
        edge(0, latest, "9 changes", () -> {
            BellCores x = new BellCores();
            coalTimes(x, 9);
            dueAccount(x, "the changes", 15, 8);
            undoAll(x, 8);
            dueAccount(x, "the heat of the first change", 0, 50);
            throwing(x, "one more undo", STATE, x::undo);
        });
        edge(0, latest, "more changes than 8 behind some that were undone", () -> {
            BellCores x = new BellCores();
            coalTimes(x, 13);
            undoAll(x, 5, 8);
            dueAccount(x, "the heat of 8 changes", 0, 260);
            x.rack(1);
            x.rack(2);
            dueAccount(x, "3 and 2", 15, 5);
            coalTimes(x, 5);
            dueAccount(x, "3, 2 and 5", 15, 8);
            undoAll(x, 8);
            dueAccount(x, "the heat of 7 changes", 0, 230);
            dueAccount(x, "the racks", 3, 0);
            throwing(x, "one more undo", STATE, x::undo);
        });
        edge(0, latest, "restore forgets 8", () -> {
            BellCores x = new BellCores();
            x.save();
            coalTimes(x, 8);
            x.restore();
            dueAccount(x, "the changes", 15, 0);
            throwing(x, "undo", STATE, x::undo);
            x.coal(2);
            dueAccount(x, "a change behind it", 15, 1);
            due("its undo", 0, x::undo);
            dueAccount(x, "the heat", 0, 20);
        });
        edge(0, latest, "restore that throws forgets none", () -> {
            BellCores x = new BellCores();
            coalTimes(x, 8);
            throwing(x, "restore", STATE, x::restore);
            due("undo", 7, x::undo);
        });
    }

    private static void edgesOfExceptions() {
        edge(0, "A method that throws an exception leaves the state unchanged unless its documentation says otherwise.",
            "each exception of each method, and the snapshot", () -> {
            BellCores x = readyForAll();
            x.line(0);
            String before = stateOf(x) + lineOf(x);
            failAll(x);
            due("the state behind them", before, () -> stateOf(x) + lineOf(x));
            x.restore();
            due("the snapshot behind them", before, () -> stateOf(x) + lineOf(x));
        });
        edge(0, "A method that throws an exception leaves the state unchanged unless its documentation says otherwise.",
            "what was typed, but for run", () -> {
            BellCores x = readyForAll();
            type(x, "c1");
            throwing(x, "a full heat of no use", ARGUMENT, () -> x.coal(21));
            refused(x, "a rack in use", 6, 2, () -> x.strike(0));
            due("the text", 1, x::run);
        });
        String several = "If several exceptions apply, the one that is documented first is thrown.";
        edge(0, several, "no such thing ahead of a wrong number", () -> {
            BellCores x = readyForAll();
            stays(x, () -> {
                due("mouldOf(1, 5)", INDEX, () -> x.mouldOf(1, 5));
                due("rackOf(2, 3)", INDEX, () -> x.rackOf(2, 3));
                due("file(3, 0)", INDEX, () -> x.file(3, 0));
                due("bellOf(3, 7)", INDEX, () -> x.bellOf(3, 7));
                due("wouldCrack(3, 49)", INDEX, () -> x.wouldCrack(3, 49));
            });
        });
        edge(0, several, "a wrong number ahead of a refusal", () -> {
            BellCores x = withMoulds(twelve(2000), 10, 10, 10, 10, 10, 10, 10, 10);
            x.bronze(500);
            x.bronze(220);
            stays(x, () -> {
                due("bronze(501) when it is full", ARGUMENT, () -> x.bronze(501));
                due("mould(61, 0) when 8 are there", ARGUMENT, () -> x.mould(61, 0));
                due("rack(10) when 4 are there", ARGUMENT, () -> x.rack(10));
                due("file(0, 7) on a rack", ARGUMENT, () -> x.file(0, 7));
            });
        });
        edge(0, several, "no such thing ahead of a refusal", () -> {
            BellCores x = withMoulds(twelve(720), 10);
            stays(x, () -> {
                due("pour(1, 0)", INDEX, () -> x.pour(1, 0));
                due("pour(0, 4)", INDEX, () -> x.pour(0, 4));
            });
        });
        edgesOfWhatStays();
    }

    private static void edgesOfWhatStays() {
        String stay = "The input, the line, the error position and the reason are neither undone nor saved, and stay.";
        edge(0, stay, "by undo", () -> {
            BellCores x = readyForAll();
            x.coal(1);
            writeTexts(x, "c1", "x", 0);
            String texts = textsOf(x) + reasonOf(x);
            x.undo();
            due("the texts", texts, () -> textsOf(x) + reasonOf(x));
            due("the input", 1, x::run);
        });
        edge(0, stay, "by save and restore", () -> {
            BellCores x = readyForAll();
            writeTexts(x, "c1;c", "", 0);
            x.save();
            answerOf(x::run);
            x.smash(0);
            writeTexts(x, "c1", "c1;c", 1);
            answerOf(() -> x.ring(1));
            String texts = textsOf(x) + reasonOf(x);
            x.restore();
            dueAccount(x, "the mould is there again", 2, 1);
            due("the texts", texts, () -> textsOf(x) + reasonOf(x));
            due("the input", 1, x::run);
        });
        edge(0, stay, "by changes", () -> {
            BellCores x = readyForAll();
            writeTexts(x, "h1", "c1;", 1);
            String texts = textsOf(x) + reasonOf(x);
            x.coal(1);
            x.bronze(1);
            x.mould(10, 0);
            x.smash(1);
            x.pour(0, 1);
            x.pass(1);
            x.take(1);
            x.ring(0);
            x.file(0, 1);
            x.recast(1);
            x.rack(1);
            x.strike(2);
            due("the texts", texts, () -> textsOf(x) + reasonOf(x));
            due("the input", 1, x::run);
        });
        edge(0, "When a rack is struck, bells on other racks stay on these, whose numbers become 1 less.",
            "ahead of it, behind it, and in the hall", () -> {
            BellCores x = withRacks(hot(), 1, 2, 3, 4);
            cast(x, 10, 4, 3);
            cast(x, 10, 4, 0);
            cast(x, 10, 4, 2);
            cast(x, 10, 4, 1);
            x.pass(4);
            x.take(3);
            x.strike(1);
            due("on the last one", 2, () -> x.bellOf(0, 3));
            due("on the first one", 0, () -> x.bellOf(1, 3));
            due("on the next one", 1, () -> x.bellOf(2, 3));
            due("in the hall", -1, () -> x.bellOf(3, 3));
            due("the draught of the next one", 3, () -> x.rackOf(1, 0));
            due("the draught of the last one", 4, () -> x.rackOf(2, 0));
            due("the bells of the last one", 1, () -> x.rackOf(2, 1));
        });
    }

    /** Leaves this error position by a text, a line, a reason, and an input. */
    private static void writeTexts(BellCores x, String input, String text, int bell) {
        answerOf(() -> run(x, text));
        answerOf(() -> x.strike(0));
        x.line(bell);
        type(x, input);
    }

    static void test() {
        edgesOfReasons();
        edgesOfChanges();
        edgesOfUndoing();
        edgesOfExceptions();
    }
}
