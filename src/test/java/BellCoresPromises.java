import java.util.NoSuchElementException;
import java.util.function.Function;

/** For each promise of the document: ordinary inputs, the edges that it names, and wrong inputs. */
public final class BellCoresPromises {
    private static final String ARGUMENT = "IllegalArgumentException";
    private static final String INDEX = "IndexOutOfBoundsException";
    private static final String REFUSED = "UnsupportedOperationException";
    private static final String NONE = "NoSuchElementException";
    private static final String STATE = "IllegalStateException";
    private static final String ARITHMETIC = "ArithmeticException";

    private static int checks = 0;
    private static int wrong = 0;

    private interface Call {
        Object answer();
    }

    private static Object answerOf(Call call) {
        try {
            return call.answer();
        } catch (IllegalArgumentException | IllegalStateException | IndexOutOfBoundsException | ArithmeticException
            | UnsupportedOperationException | NoSuchElementException thrown) {
            return thrown.getClass().getSimpleName();
        }
    }

    private static void due(int promise, String what, Object want, Call call) {
        checks++;
        Object got = answerOf(call);
        if (!want.equals(got)) {
            wrong++;
            System.out.println("promise " + promise + ": " + what + " answered " + got + ", due is " + want);
        }
    }

    private static void refused(int promise, String what, BellCores x, int reason, int detail, Call call) {
        due(promise, what, REFUSED, call);
        due(promise, what + ": the reason", reason, () -> x.refusal(false));
        due(promise, what + ": the detail", detail, () -> x.refusal(true));
    }

    /** A foundry with the heat 1400 and 2000 pounds. */
    private static BellCores full() {
        BellCores x = new BellCores();
        for (int i = 0; i < 4; i++) {
            x.coal(20);
            x.bronze(500);
        }
        return x;
    }

    /** Makes a mould and pours it at once; the number of the bell. */
    private static int cast(BellCores x, int core, int sand, int rack) {
        return x.pour(x.mould(core, sand), rack);
    }

    /** Puts bells with these cores into the hall, sound ones: sand 4 stands the loss of a rack with draught 1. */
    private static BellCores hallOf(int... cores) {
        BellCores x = full();
        x.rack(1);
        for (int core : cores) {
            int bell = cast(x, core, 4, 0);
            for (int i = 0; i < 3; i++) {
                x.pass(48);
            }
            x.take(bell);
            x.coal(20);
            x.coal(20);
        }
        return x;
    }

    /** A bell in the hall with the core 60 and so many cracks: it loses 7 an hour, of 6 that its sand stands. */
    private static BellCores cracked(int cracks) {
        BellCores x = full();
        x.rack(3);
        cast(x, 60, 0, 0);
        x.pass(cracks);
        x.rack(1);
        cast(x, 10, 4, 0);
        cast(x, 10, 4, 0);
        x.pass(48);
        x.take(0);
        return x;
    }

    private static void type(BellCores x, String text) {
        for (char c : text.toCharArray()) {
            x.append(c);
        }
    }

    private static int run(BellCores x, String text) {
        type(x, text);
        return x.run();
    }

    private static String lineOf(BellCores x) {
        StringBuilder line = new StringBuilder();
        for (int i = 0; i < 60; i++) {
            int index = i;
            Object c = answerOf(() -> x.character(index));
            if (!(c instanceof Character)) {
                break;
            }
            line.append(c);
        }
        return line.toString();
    }

    private static String accountsOf(BellCores x) {
        StringBuilder accounts = new StringBuilder();
        for (int what = 0; what < 16; what++) {
            accounts.append(what == 0 ? "" : " ").append(x.account(what));
        }
        return accounts.toString();
    }

    private static String bellsOf(BellCores x) {
        StringBuilder bells = new StringBuilder();
        for (int bell = 0; bell < x.account(4); bell++) {
            for (int what = 0; what < 7; what++) {
                bells.append(x.bellOf(bell, what)).append(what == 6 ? "; " : " ");
            }
        }
        return bells.toString();
    }

    private static void newObject() {
        BellCores x = new BellCores();
        due(1, "the accounts", "20 0 0 0 0 0 0 0 0 0 0 0 0 0 0 0", () -> accountsOf(x));
        due(1, "errorPosition", -1, x::errorPosition);
        due(1, "refusal", NONE, () -> x.refusal(false));
        due(1, "character", INDEX, () -> x.character(0));
        due(1, "restore", STATE, x::restore);
        due(1, "undo", STATE, x::undo);
        BellCores other = new BellCores();
        x.coal(3);
        due(1, "the heat of another one", 20, () -> other.account(0));
    }

    private static void coal() {
        BellCores x = new BellCores();
        due(2, "coal(0)", ARGUMENT, () -> x.coal(0));
        due(2, "coal(21)", ARGUMENT, () -> x.coal(21));
        due(2, "coal(least)", ARGUMENT, () -> x.coal(Integer.MIN_VALUE));
        due(2, "coal(greatest)", ARGUMENT, () -> x.coal(Integer.MAX_VALUE));
        due(2, "the heat after wrong ones", 20, () -> x.account(0));
        due(2, "coal(1)", 50, () -> x.coal(1));
        due(2, "coal(20)", 650, () -> x.coal(20));
        due(2, "coal(20) again", 1250, () -> x.coal(20));
        due(2, "coal(5) to the brim", 1400, () -> x.coal(5));
        due(2, "coal(1) above it", 1400, () -> x.coal(1));
        due(2, "the loads", 47, () -> x.account(9));
        due(2, "the changes", 5, () -> x.account(15));
    }

    private static void bronze() {
        BellCores x = new BellCores();
        due(3, "bronze(0)", ARGUMENT, () -> x.bronze(0));
        due(3, "bronze(501)", ARGUMENT, () -> x.bronze(501));
        due(3, "bronze(-1)", ARGUMENT, () -> x.bronze(-1));
        due(3, "bronze(greatest)", ARGUMENT, () -> x.bronze(Integer.MAX_VALUE));
        due(3, "bronze(1)", 1, () -> x.bronze(1));
        due(3, "bronze(500)", 501, () -> x.bronze(500));
        x.bronze(500);
        x.bronze(500);
        refused(3, "bronze(500) too many", x, 1, 2000, () -> x.bronze(500));
        due(3, "bronze(499) to the brim", 2000, () -> x.bronze(499));
        refused(3, "bronze(1) too many", x, 1, 2000, () -> x.bronze(1));
        due(3, "bronze(501) when full", ARGUMENT, () -> x.bronze(501));
        due(3, "the pounds brought", 2000, () -> x.account(7));
    }

    private static void mould() {
        BellCores x = new BellCores();
        due(4, "mould(9, 0)", ARGUMENT, () -> x.mould(9, 0));
        due(4, "mould(61, 0)", ARGUMENT, () -> x.mould(61, 0));
        due(4, "mould(10, -1)", ARGUMENT, () -> x.mould(10, -1));
        due(4, "mould(10, 5)", ARGUMENT, () -> x.mould(10, 5));
        due(4, "mould(10, 0)", 0, () -> x.mould(10, 0));
        due(4, "mould(60, 4)", 1, () -> x.mould(60, 4));
        for (int i = 2; i < 8; i++) {
            int number = i;
            due(4, "mould " + i, number, () -> x.mould(20 + number, 1));
        }
        refused(4, "the ninth mould", x, 1, 8, () -> x.mould(10, 0));
        due(4, "a wrong ninth mould", ARGUMENT, () -> x.mould(9, 0));
        due(4, "the moulds", 8, () -> x.account(2));
    }

    private static void smash() {
        BellCores x = new BellCores();
        due(5, "smash without moulds", INDEX, () -> x.smash(0));
        x.mould(10, 0);
        x.mould(20, 1);
        x.mould(30, 2);
        due(5, "smash(-1)", INDEX, () -> x.smash(-1));
        due(5, "smash(3)", INDEX, () -> x.smash(3));
        due(5, "smash(1)", 2, () -> x.smash(1));
        due(5, "the first one stays", 10, () -> x.mouldOf(0, 0));
        due(5, "the last one moves up", 30, () -> x.mouldOf(1, 0));
        due(5, "its sand", 2, () -> x.mouldOf(1, 1));
        due(5, "the old number", INDEX, () -> x.mouldOf(2, 0));
        due(5, "smash(1) again", 1, () -> x.smash(1));
        due(5, "smash(0)", 0, () -> x.smash(0));
        due(5, "mould anew", 0, () -> x.mould(12, 3));
        due(5, "its core", 12, () -> x.mouldOf(0, 0));
    }

    private static void mouldOf() {
        BellCores x = new BellCores();
        due(6, "mouldOf without moulds", INDEX, () -> x.mouldOf(0, 9));
        x.mould(60, 4);
        x.mould(13, 2);
        int[][] wants = {{60, 4, 310, 1180, 40}, {13, 2, 75, 804, 87}};
        for (int mould = 0; mould < 2; mould++) {
            for (int what = 0; what < 5; what++) {
                int m = mould;
                int w = what;
                due(6, "mouldOf(" + m + ", " + w + ")", wants[m][w], () -> x.mouldOf(m, w));
            }
        }
        due(6, "mouldOf(0, 5)", ARGUMENT, () -> x.mouldOf(0, 5));
        due(6, "mouldOf(0, -1)", ARGUMENT, () -> x.mouldOf(0, -1));
        due(6, "mouldOf(-1, 5)", INDEX, () -> x.mouldOf(-1, 5));
        due(6, "mouldOf(2, 0)", INDEX, () -> x.mouldOf(2, 0));
    }

    private static void rack() {
        BellCores x = new BellCores();
        due(7, "rack(0)", ARGUMENT, () -> x.rack(0));
        due(7, "rack(10)", ARGUMENT, () -> x.rack(10));
        due(7, "rack(1)", 0, () -> x.rack(1));
        due(7, "rack(9)", 1, () -> x.rack(9));
        due(7, "rack(5)", 2, () -> x.rack(5));
        due(7, "rack(5) again", 3, () -> x.rack(5));
        refused(7, "the fifth rack", x, 1, 4, () -> x.rack(5));
        due(7, "a wrong fifth rack", ARGUMENT, () -> x.rack(10));
        due(7, "the racks", 4, () -> x.account(3));
    }

    private static void strike() {
        BellCores x = full();
        due(8, "strike without racks", INDEX, () -> x.strike(0));
        x.rack(1);
        x.rack(2);
        x.rack(3);
        cast(x, 10, 4, 0);
        cast(x, 10, 4, 2);
        cast(x, 10, 4, 2);
        due(8, "strike(-1)", INDEX, () -> x.strike(-1));
        due(8, "strike(3)", INDEX, () -> x.strike(3));
        refused(8, "strike(2)", x, 6, 2, () -> x.strike(2));
        refused(8, "strike(0)", x, 6, 1, () -> x.strike(0));
        due(8, "strike(1)", 2, () -> x.strike(1));
        due(8, "a bell ahead stays", 0, () -> x.bellOf(0, 3));
        due(8, "a bell behind moves with its rack", 1, () -> x.bellOf(1, 3));
        due(8, "another one too", 1, () -> x.bellOf(2, 3));
        due(8, "the draught moves", 3, () -> x.rackOf(1, 0));
        due(8, "the old number", INDEX, () -> x.rackOf(2, 0));
        x.pass(48);
        x.take(0);
        x.recast(0);
        due(8, "the first bell is behind it now", 1, () -> x.bellOf(0, 3));
        x.rack(8);
        cast(x, 10, 4, 2);
        x.pass(48);
        x.take(2);
        due(8, "strike(0) when empty", 2, () -> x.strike(0));
        due(8, "the first bell moves with its rack", 0, () -> x.bellOf(0, 3));
        due(8, "the bell in the hall stays there", -1, () -> x.bellOf(2, 3));
        due(8, "strike(1) when empty", 1, () -> x.strike(1));
    }

    private static void rackOf() {
        BellCores x = full();
        due(9, "rackOf without racks", INDEX, () -> x.rackOf(0, 9));
        x.rack(3);
        x.rack(9);
        due(9, "the draught", 9, () -> x.rackOf(1, 0));
        int[] losses = {9, 7, 5, 3};
        for (int bells = 0; bells < 4; bells++) {
            int on = bells;
            due(9, "the bells", on, () -> x.rackOf(0, 1));
            due(9, "the loss with " + on, losses[on], () -> x.rackOf(0, 2));
            due(9, "the other rack's bells", 0, () -> x.rackOf(1, 1));
            due(9, "the other rack's loss", 15, () -> x.rackOf(1, 2));
            if (bells < 3) {
                cast(x, 10, 4, 0);
            }
        }
        x.pass(48);
        due(9, "the loss when all are cold", 3, () -> x.rackOf(0, 2));
        x.take(1);
        due(9, "the loss when one was taken", 5, () -> x.rackOf(0, 2));
        due(9, "rackOf(0, 3)", ARGUMENT, () -> x.rackOf(0, 3));
        due(9, "rackOf(0, -1)", ARGUMENT, () -> x.rackOf(0, -1));
        due(9, "rackOf(2, 3)", INDEX, () -> x.rackOf(2, 3));
        due(9, "rackOf(-1, 0)", INDEX, () -> x.rackOf(-1, 0));
    }

    private static void pour() {
        BellCores x = full();
        x.mould(20, 2);
        due(10, "pour without racks", INDEX, () -> x.pour(0, 0));
        x.rack(1);
        due(10, "pour(1, 0)", INDEX, () -> x.pour(1, 0));
        due(10, "pour(-1, 0)", INDEX, () -> x.pour(-1, 0));
        due(10, "pour(0, -1)", INDEX, () -> x.pour(0, -1));
        x.mould(33, 1);
        due(10, "pour(0, 0)", 0, () -> x.pour(0, 0));
        due(10, "the heat", 1378, () -> x.account(0));
        due(10, "the pounds", 1890, () -> x.account(1));
        due(10, "the mould is gone", 1, () -> x.account(2));
        due(10, "the other moves up", 33, () -> x.mouldOf(0, 0));
        due(10, "the bell", "20 2 110 0 40 0 0; ", () -> bellsOf(x));
        due(10, "the bells poured", 1, () -> x.account(12));
        due(10, "the next one", 1, () -> x.pour(0, 0));
        due(10, "the heat then", 1343, () -> x.account(0));
        BellCores again = cracked(3);
        again.file(0, 4);
        again.take(1);
        again.take(2);
        again.recast(2);
        again.recast(1);
        again.recast(0);
        again.coal(20);
        cast(again, 22, 1, 1);
        due(10, "a bell in the place of a recast one", "22 1 120 1 44 0 0; ", () -> bellsOf(again));
        pourRefusals();
    }

    private static void pourRefusals() {
        BellCores x = new BellCores();
        x.rack(1);
        x.mould(60, 0);
        refused(10, "no bronze, no heat", x, 2, 310, () -> x.pour(0, 0));
        x.bronze(309);
        refused(10, "a pound lacks", x, 2, 1, () -> x.pour(0, 0));
        x.bronze(1);
        refused(10, "no heat", x, 3, 1160, () -> x.pour(0, 0));
        x.coal(20);
        x.coal(18);
        refused(10, "twenty lack", x, 3, 20, () -> x.pour(0, 0));
        due(10, "the mould stays", 1, () -> x.account(2));
        x.coal(1);
        due(10, "enough", 0, () -> x.pour(0, 0));
        x.mould(10, 0);
        x.mould(10, 0);
        x.mould(10, 0);
        x.bronze(500);
        x.pour(0, 0);
        x.pour(0, 0);
        refused(10, "a full rack", x, 1, 3, () -> x.pour(0, 0));
        BellCores exact = new BellCores();
        exact.rack(1);
        exact.mould(10, 0);
        exact.bronze(60);
        exact.coal(20);
        exact.coal(6);
        exact.pass(4);
        due(10, "the heat just enough", 780, () -> exact.account(0));
        due(10, "pour with just enough", 0, () -> exact.pour(0, 0));
        due(10, "nothing is left", 0, () -> exact.account(1));
        twelveBells();
    }

    private static void twelveBells() {
        BellCores x = full();
        for (int rack = 0; rack < 4; rack++) {
            x.rack(1);
            for (int i = 0; i < 3; i++) {
                cast(x, 10, 4, rack);
            }
        }
        x.mould(60, 0);
        refused(10, "the thirteenth bell on a full rack", x, 1, 12, () -> x.pour(0, 0));
        x.pass(48);
        x.take(0);
        refused(10, "the thirteenth bell with room on the rack", x, 1, 12, () -> x.pour(0, 0));
        x.recast(0);
        refused(10, "the full rack ahead of the heat", x, 1, 3, () -> x.pour(0, 1));
        refused(10, "the heat", x, 3, 1180 - x.account(0), () -> x.pour(0, 0));
    }

    private static void pass() {
        BellCores x = new BellCores();
        due(11, "pass(0)", ARGUMENT, () -> x.pass(0));
        due(11, "pass(49)", ARGUMENT, () -> x.pass(49));
        due(11, "pass(-1)", ARGUMENT, () -> x.pass(-1));
        due(11, "pass(1)", 0, () -> x.pass(1));
        due(11, "the least heat", 20, () -> x.account(0));
        x.coal(1);
        x.pass(5);
        due(11, "the heat", 25, () -> x.account(0));
        due(11, "pass(48)", 0, () -> x.pass(48));
        due(11, "the least heat again", 20, () -> x.account(0));
        due(11, "the hours", 54, () -> x.account(10));
        passCracks();
    }

    private static void passCracks() {
        BellCores x = full();
        x.rack(3);
        cast(x, 20, 0, 0);
        due(11, "a loss of 7, one above 6", 1, () -> x.pass(1));
        due(11, "the bell", "20 0 110 0 33 1 0; ", () -> bellsOf(x));
        due(11, "four hours more", 4, () -> x.pass(4));
        due(11, "the bell then", "20 0 110 0 5 5 0; ", () -> bellsOf(x));
        due(11, "an hour that takes the rest, and two cold ones", 1, () -> x.pass(3));
        due(11, "the cold bell", "20 0 110 0 0 6 0; ", () -> bellsOf(x));
        due(11, "a cold bell", 0, () -> x.pass(48));
        BellCores edge = full();
        edge.rack(4);
        cast(edge, 20, 1, 0);
        due(11, "a loss of 8 that sand 1 stands", 0, () -> edge.pass(5));
        due(11, "cold to the point", 0, () -> edge.bellOf(0, 4));
        BellCores many = full();
        many.rack(9);
        cast(many, 60, 0, 0);
        cast(many, 60, 2, 0);
        cast(many, 60, 3, 0);
        due(11, "a loss of 9: only sand 0 cracks", 2, () -> many.pass(2));
        due(11, "up to 9 cracks", 7, () -> many.pass(48));
        due(11, "the bells", "60 0 310 0 0 9 0; 60 2 310 0 0 0 0; 60 3 310 0 0 0 0; ", () -> bellsOf(many));
        many.take(0);
        due(11, "the hall", 0, () -> many.pass(48));
    }

    private static void take() {
        BellCores x = full();
        due(12, "take without bells", INDEX, () -> x.take(0));
        x.rack(1);
        x.rack(1);
        cast(x, 20, 4, 1);
        due(12, "take(1)", INDEX, () -> x.take(1));
        due(12, "take(-1)", INDEX, () -> x.take(-1));
        refused(12, "a warm bell", x, 4, 40, () -> x.take(0));
        x.pass(7);
        refused(12, "a bell that is still warm", x, 4, 5, () -> x.take(0));
        x.pass(1);
        due(12, "take(0)", 1, () -> x.take(0));
        due(12, "in the hall", -1, () -> x.bellOf(0, 3));
        refused(12, "a bell in the hall", x, 5, -1, () -> x.take(0));
        for (int i = 1; i < 4; i++) {
            cast(x, 10, 4, 0);
        }
        x.pass(19);
        refused(12, "a warmth of 1", x, 4, 1, () -> x.take(3));
        x.pass(1);
        due(12, "then without", 0, () -> x.take(3));
        due(12, "room on the rack", 0, () -> x.rackOf(1, 1));
    }

    private static void ring() {
        BellCores x = cracked(1);
        due(13, "ring(-1)", INDEX, () -> x.ring(-1));
        due(13, "ring(3)", INDEX, () -> x.ring(3));
        refused(13, "a bell on a rack", x, 5, 0, () -> x.ring(1));
        due(13, "one crack", 39, () -> x.ring(0));
        due(13, "one crack does not grow", 39, () -> x.ring(0));
        BellCores two = cracked(2);
        due(13, "two cracks", 38, () -> two.ring(0));
        due(13, "they grow behind it", 3, () -> two.bellOf(0, 5));
        for (int note = 37; note > 31; note--) {
            int told = note;
            due(13, "the note falls", told, () -> two.ring(0));
        }
        due(13, "nine cracks", 31, () -> two.ring(0));
        due(13, "no more than nine", 31, () -> two.ring(0));
        due(13, "the cracks", 9, () -> two.bellOf(0, 5));
        due(13, "ringing is a change", 8, () -> two.account(15));
        two.undo();
        two.undo();
        two.undo();
        due(13, "undone", 8, () -> two.bellOf(0, 5));
        BellCores other = full();
        other.rack(1);
        other.rack(1);
        cast(other, 10, 4, 1);
        refused(13, "a bell on rack 1", other, 5, 1, () -> other.ring(0));
    }

    private static void file() {
        BellCores x = hallOf(20, 30);
        cast(x, 10, 4, 0);
        due(14, "file(3, 0)", INDEX, () -> x.file(3, 0));
        due(14, "file(-1, 1)", INDEX, () -> x.file(-1, 1));
        due(14, "file(0, 0)", ARGUMENT, () -> x.file(0, 0));
        due(14, "file(0, 7)", ARGUMENT, () -> x.file(0, 7));
        due(14, "file(2, 7) on a rack", ARGUMENT, () -> x.file(2, 7));
        refused(14, "a bell on a rack", x, 5, 0, () -> x.file(2, 1));
        due(14, "file(0, 1)", 81, () -> x.file(0, 1));
        due(14, "file(0, 3)", 84, () -> x.file(0, 3));
        refused(14, "too many marks", x, 7, 4, () -> x.file(0, 3));
        due(14, "file(0, 2)", 86, () -> x.file(0, 2));
        refused(14, "no more marks", x, 7, 6, () -> x.file(0, 1));
        due(14, "the marks", 6, () -> x.bellOf(0, 6));
        due(14, "file(1, 6)", 76, () -> x.file(1, 6));
    }

    private static void recast() {
        BellCores x = hallOf(23, 30, 11);
        cast(x, 10, 4, 0);
        due(15, "recast(4)", INDEX, () -> x.recast(4));
        due(15, "recast(-1)", INDEX, () -> x.recast(-1));
        refused(15, "a bell on a rack", x, 5, 0, () -> x.recast(3));
        int before = x.account(1);
        due(15, "recast(0)", 113, () -> x.recast(0));
        due(15, "the pounds", before + 113, () -> x.account(1));
        due(15, "the pounds lost", 12, () -> x.account(8));
        due(15, "the others move up", "30 4 160 -1 0 0 0; 11 4 65 -1 0 0 0; 10 4 60 0 20 0 0; ", () -> bellsOf(x));
        due(15, "recast(1)", 59, () -> x.recast(1));
        due(15, "the pounds lost then", 18, () -> x.account(8));
        due(15, "the last ones", "30 4 160 -1 0 0 0; 10 4 60 0 20 0 0; ", () -> bellsOf(x));
        due(15, "the bells poured stay", 4, () -> x.account(12));
        BellCores tight = hallOf(20);
        tight.bronze(12);
        refused(15, "a pound too many", tight, 1, 2000, () -> tight.recast(0));
        tight.undo();
        tight.bronze(11);
        due(15, "to the brim", 99, () -> tight.recast(0));
        due(15, "the brim", 2000, () -> tight.account(1));
        BellCores full = full();
        full.rack(1);
        cast(full, 20, 4, 0);
        full.bronze(110);
        refused(15, "the rack ahead of the pounds", full, 5, 0, () -> full.recast(0));
    }

    private static void bellOf() {
        BellCores x = full();
        due(16, "bellOf without bells", INDEX, () -> x.bellOf(0, 9));
        x.rack(1);
        x.rack(7);
        cast(x, 20, 3, 0);
        cast(x, 45, 1, 1);
        x.pass(2);
        due(16, "the bells", "20 3 110 0 30 0 0; 45 1 235 1 68 2 0; ", () -> bellsOf(x));
        due(16, "bellOf(0, 7)", ARGUMENT, () -> x.bellOf(0, 7));
        due(16, "bellOf(0, -1)", ARGUMENT, () -> x.bellOf(0, -1));
        due(16, "bellOf(2, 7)", INDEX, () -> x.bellOf(2, 7));
        due(16, "bellOf(-1, 0)", INDEX, () -> x.bellOf(-1, 0));
        x.pass(48);
        x.take(0);
        x.file(0, 5);
        due(16, "in the hall", "20 3 110 -1 0 0 5; 45 1 235 1 0 9 0; ", () -> bellsOf(x));
    }

    private static void note() {
        BellCores x = cracked(3);
        due(17, "note(3, false)", INDEX, () -> x.note(3, false));
        due(17, "note(-1, true)", INDEX, () -> x.note(-1, true));
        due(17, "a cracked one", 37, () -> x.note(0, false));
        due(17, "a cracked one again", 37, () -> x.note(0, true));
        x.ring(0);
        x.file(0, 5);
        due(17, "rung and filed", 41, () -> x.note(0, false));
        due(17, "rung and filed again", 41, () -> x.note(0, true));
        due(17, "on a rack", 90, () -> x.note(1, false));
        due(17, "on a rack again", 90, () -> x.note(1, true));
        x.undo();
        due(17, "after undo", 36, () -> x.note(0, true));
        x.recast(0);
        due(17, "the next one", 90, () -> x.note(0, true));
    }

    private static void wouldCrack() {
        BellCores x = full();
        due(18, "wouldCrack without bells", INDEX, () -> x.wouldCrack(0, 99));
        x.rack(3);
        cast(x, 20, 0, 0);
        int[] wants = {0, 1, 2, 3, 4, 5, 6, 6, 6};
        for (int hours = 0; hours < wants.length; hours++) {
            int h = hours;
            due(18, "after " + h + " hours", wants[h], () -> x.wouldCrack(0, h));
        }
        due(18, "wouldCrack(0, 48)", 6, () -> x.wouldCrack(0, 48));
        due(18, "wouldCrack(0, 49)", ARGUMENT, () -> x.wouldCrack(0, 49));
        due(18, "wouldCrack(0, -1)", ARGUMENT, () -> x.wouldCrack(0, -1));
        due(18, "wouldCrack(1, -1)", INDEX, () -> x.wouldCrack(1, -1));
        due(18, "wouldCrack(-1, 1)", INDEX, () -> x.wouldCrack(-1, 1));
        due(18, "nothing came of it", "20 0 110 0 40 0 0; ", () -> bellsOf(x));
        x.pass(2);
        due(18, "with those that it has", 5, () -> x.wouldCrack(0, 3));
        cast(x, 60, 0, 0);
        due(18, "with a second bell on the rack", 2, () -> x.wouldCrack(0, 48));
        BellCores nine = full();
        nine.rack(9);
        cast(nine, 60, 0, 0);
        due(18, "up to nine", 9, () -> nine.wouldCrack(0, 48));
        BellCores hall = cracked(4);
        due(18, "in the hall", 4, () -> hall.wouldCrack(0, 48));
    }

    private static void coldIn() {
        BellCores x = full();
        due(19, "coldIn without bells", INDEX, () -> x.coldIn(0));
        x.rack(3);
        cast(x, 20, 4, 0);
        due(19, "40 by 7", 6, () -> x.coldIn(0));
        cast(x, 10, 4, 0);
        due(19, "40 by 5", 8, () -> x.coldIn(0));
        due(19, "20 by 5", 4, () -> x.coldIn(1));
        due(19, "coldIn(2)", INDEX, () -> x.coldIn(2));
        due(19, "coldIn(-1)", INDEX, () -> x.coldIn(-1));
        x.pass(4);
        due(19, "a cold one", 0, () -> x.coldIn(1));
        due(19, "20 by 5 then", 4, () -> x.coldIn(0));
        x.take(1);
        due(19, "20 by 7", 3, () -> x.coldIn(0));
        due(19, "in the hall", 0, () -> x.coldIn(1));
        BellCores slow = full();
        slow.rack(1);
        for (int i = 0; i < 3; i++) {
            cast(slow, 60, 4, 0);
        }
        due(19, "120 by 1", 120, () -> slow.coldIn(2));
    }

    private static void dueByBoth(int promise, BellCores x, int want, int note) {
        due(promise, "peal(" + note + ", false)", want, () -> x.peal(note, false));
        due(promise, "peal(" + note + ", true)", want, () -> x.peal(note, true));
    }

    private static void peal() {
        BellCores x = new BellCores();
        for (int note : new int[] {-1, 101, Integer.MIN_VALUE, Integer.MAX_VALUE}) {
            due(20, "peal(" + note + ", false)", ARGUMENT, () -> x.peal(note, false));
            due(20, "peal(" + note + ", true)", ARGUMENT, () -> x.peal(note, true));
        }
        dueByBoth(20, x, 0, 0);
        dueByBoth(20, x, 0, 100);
        // The notes 70 and 70 with 2, 4, 5, 7, 9, 11 and 12 more, the first of them last.
        BellCores all = hallOf(28, 26, 25, 23, 21, 19, 18, 18, 30);
        dueByBoth(20, all, 8, 70);
        dueByBoth(20, all, 0, 71);
        dueByBoth(20, all, 2, 72);
        dueByBoth(20, all, 1, 82);
        dueByBoth(20, all, 0, 58);
        all.file(0, 1);
        dueByBoth(20, all, 1, 70);
        all.undo();
        for (int[] row : new int[][] {{0, 1}, {1, 2}, {2, 3}, {3, 4}, {4, 5}, {5, 6}, {8, 0}}) {
            all.recast(row[0]);
            dueByBoth(20, all, row[1], 70);
            all.undo();
        }
        all.file(6, 1);
        dueByBoth(20, all, 8, 70);
        all.file(7, 1);
        dueByBoth(20, all, 7, 70);
        BellCores high = hallOf(10);
        dueByBoth(20, high, 1, 90);
        high.file(0, 6);
        dueByBoth(20, high, 1, 96);
        dueByBoth(20, high, 0, 100);
        BellCores rack = full();
        rack.rack(1);
        cast(rack, 30, 4, 0);
        dueByBoth(20, rack, 0, 70);
    }

    private static void longest() {
        BellCores x = full();
        due(21, "longest without bells", NONE, x::longest);
        x.rack(1);
        cast(x, 30, 4, 0);
        due(21, "longest with none in the hall", NONE, x::longest);
        BellCores alike = hallOf(20, 30, 40);
        due(21, "the lowest of several", 60, alike::longest);
        BellCores two = hallOf(40, 30, 28);
        due(21, "the longest", 70, two::longest);
        due(21, "the highest", 96, () -> {
            BellCores high = hallOf(10);
            high.file(0, 6);
            return high.longest();
        });
        two.recast(1);
        due(21, "the longest then", 60, two::longest);
    }

    private static void ranked() {
        BellCores x = hallOf(30, 20, 30);
        cast(x, 10, 4, 0);
        int[] wants = {3, 1, 0, 2};
        for (int place = 0; place < 4; place++) {
            int p = place;
            due(22, "ranked(" + p + ")", wants[p], () -> x.ranked(p));
        }
        due(22, "ranked(4)", NONE, () -> x.ranked(4));
        due(22, "ranked(-1)", NONE, () -> x.ranked(-1));
        x.file(2, 1);
        due(22, "a higher one", 2, () -> x.ranked(2));
        due(22, "a lower one", 0, () -> x.ranked(3));
        due(22, "ranked without bells", NONE, () -> new BellCores().ranked(0));
    }

    /** A foundry with this heat (up to 1400, in steps of 5) and bronze, and moulds with these cores. */
    private static BellCores moulds(int heat, int pounds, int... cores) {
        BellCores x = new BellCores();
        for (int left = 60; left > 0; left -= 20) {
            x.coal(20);
        }
        for (int hours = (1400 - heat) / 5; hours > 0; hours -= 48) {
            x.pass(Math.min(48, hours));
        }
        for (int left = pounds; left > 0; left -= 500) {
            x.bronze(Math.min(500, left));
        }
        for (int core : cores) {
            x.mould(core, 0);
        }
        return x;
    }

    private static void pourable() {
        due(23, "no moulds, the best", 0, () -> moulds(1400, 2000).pourable(true));
        due(23, "no moulds, the hottest", 0, () -> moulds(1400, 2000).pourable(false));
        due(23, "no bronze", 0, () -> moulds(1400, 0, 10, 10).pourable(true));
        // The core 30 takes 160 pounds, and leaves 20; each of the others takes 60.
        BellCores scarce = moulds(1400, 180, 10, 30, 10, 10);
        due(23, "scarce bronze, the best", 3, () -> scarce.pourable(true));
        due(23, "scarce bronze, the hottest", 1, () -> scarce.pourable(false));
        // The core 40 takes 42 of the heat: then the core 30 lacks 2 of the 940 that it needs.
        BellCores cool = moulds(980, 2000, 30, 40);
        due(23, "the heat falls", 1, () -> cool.pourable(true));
        due(23, "the hottest is the first mould", 1, () -> moulds(1400, 180, 30, 10, 10, 10).pourable(false));
        due(23, "the heat that it needs", 1, () -> moulds(780, 2000, 10).pourable(true));
        due(23, "the heat that it needs, the hottest", 1, () -> moulds(780, 2000, 10).pourable(false));
        due(23, "less heat than it needs", 0, () -> moulds(775, 2000, 10).pourable(true));
        due(23, "the hottest pours what it can", 1, () -> moulds(980, 2000, 10, 60).pourable(false));
        due(23, "just enough heat", 2, () -> moulds(1025, 2000, 40, 35).pourable(true));
        due(23, "just enough bronze", 2, () -> moulds(1400, 120, 10, 10).pourable(true));
        due(23, "a pound lacks", 1, () -> moulds(1400, 119, 10, 10).pourable(true));
        due(23, "eight moulds", 8, () -> moulds(1400, 2000, 10, 11, 12, 13, 14, 15, 16, 17).pourable(true));
        BellCores cold = moulds(800, 2000, 10, 10, 10);
        due(23, "heat for two only, the best", 2, () -> cold.pourable(true));
        due(23, "heat for two only, the hottest", 2, () -> cold.pourable(false));
        due(23, "nothing was poured", 3, () -> cold.account(2));
        BellCores fewer = moulds(1400, 2000, 20, 30, 60);
        for (int left = 3; left >= 0; left--) {
            int most = left;
            due(23, left + " left, the best", most, () -> fewer.pourable(true));
            due(23, left + " left, the hottest", most, () -> fewer.pourable(false));
            answerOf(() -> fewer.smash(most - 1));
        }
        BellCores without = moulds(1000, 2000, 10, 60);
        without.pourable(false);
        without.smash(1);
        due(23, "the hottest without a mould that is gone", 1, () -> without.pourable(false));
    }

    private static void first() {
        due(24, "no moulds", NONE, () -> moulds(1400, 2000).first());
        due(24, "no bronze", NONE, () -> moulds(1400, 59, 10).first());
        due(24, "the lowest", 0, () -> moulds(1400, 2000, 10, 60).first());
        due(24, "not the dear one", 1, () -> moulds(1400, 180, 30, 10, 10, 10).first());
        // With 1000 the core 37 can be poured first, but the other way round it lacks heat.
        due(24, "the hot one must come first", 1, () -> moulds(1000, 2000, 10, 37).first());
        due(24, "the one that cannot be poured", 1, () -> moulds(1000, 2000, 60, 10).first());
        BellCores x = moulds(1400, 2000, 10, 60);
        x.first();
        due(24, "nothing was poured", 2, () -> x.account(2));
        x.smash(0);
        due(24, "the one that is left", 0, x::first);
        x.smash(0);
        due(24, "none is left", NONE, x::first);
    }

    private static void line() {
        BellCores x = cracked(2);
        due(25, "line(3)", INDEX, () -> x.line(3));
        due(25, "line(-1)", INDEX, () -> x.line(-1));
        due(25, "line(0)", 8, () -> x.line(0));
        due(25, "its text", "0@hn38!!", () -> lineOf(x));
        due(25, "line(1)", 6, () -> x.line(1));
        due(25, "its text", "1@0n90", () -> lineOf(x));
        due(25, "a wrong one", INDEX, () -> x.line(3));
        due(25, "the line stays", "1@0n90", () -> lineOf(x));
        BellCores many = full();
        for (int i = 0; i < 11; i++) {
            if (i % 3 == 0) {
                many.rack(1);
            }
            cast(many, 10, 4, i / 3);
        }
        due(25, "two digits", 7, () -> many.line(10));
        due(25, "its text", "10@3n90", () -> lineOf(many));
        many.undo();
        due(25, "undo leaves the line", "10@3n90", () -> lineOf(many));
        BellCores nine = full();
        nine.rack(9);
        cast(nine, 60, 0, 0);
        nine.pass(10);
        due(25, "nine cracks", 15, () -> nine.line(0));
        due(25, "its text", "0@0n31!!!!!!!!!", () -> lineOf(nine));
    }

    private static void rackLine() {
        BellCores x = full();
        due(26, "rackLine without racks", INDEX, () -> x.rackLine(0));
        x.rack(1);
        x.rack(2);
        cast(x, 20, 4, 0);
        cast(x, 60, 4, 1);
        cast(x, 11, 4, 0);
        due(26, "rackLine(0)", 9, () -> x.rackLine(0));
        due(26, "its text", "0w40 2w22", () -> lineOf(x));
        due(26, "rackLine(1)", 5, () -> x.rackLine(1));
        due(26, "its text", "1w120", () -> lineOf(x));
        due(26, "rackLine(2)", INDEX, () -> x.rackLine(2));
        due(26, "rackLine(-1)", INDEX, () -> x.rackLine(-1));
        due(26, "the line stays", "1w120", () -> lineOf(x));
        x.pass(30);
        x.rackLine(0);
        due(26, "cold ones", "0w0 2w0", () -> lineOf(x));
        x.take(0);
        x.take(2);
        due(26, "an empty rack", 0, () -> x.rackLine(0));
        due(26, "an empty line", "", () -> lineOf(x));
    }

    private static void character() {
        BellCores x = hallOf(20);
        due(27, "an empty line", INDEX, () -> x.character(0));
        x.line(0);
        due(27, "character(0)", '0', () -> x.character(0));
        due(27, "character(5)", '0', () -> x.character(5));
        due(27, "character(2)", 'h', () -> x.character(2));
        due(27, "character(6)", INDEX, () -> x.character(6));
        due(27, "character(-1)", INDEX, () -> x.character(-1));
        due(27, "character(greatest)", INDEX, () -> x.character(Integer.MAX_VALUE));
    }

    private static void append() {
        BellCores x = new BellCores();
        for (int i = 1; i <= 60; i++) {
            int count = i;
            due(28, "character " + i, count, () -> x.append((char) (count * 1000)));
        }
        due(28, "one more", STATE, () -> x.append('c'));
        due(28, "the characters", 60, () -> x.account(14));
        due(28, "the text is wrong", ARGUMENT, x::run);
        due(28, "room again", 1, () -> x.append('c'));
    }

    private static void runOrders() {
        BellCores x = new BellCores();
        due(29, "all kinds", 8, () -> run(x, "c20;c20;b500;m60s3;r9;p0>0;h48;t0"));
        due(29, "the bell", "60 3 310 -1 0 9 0; ", () -> bellsOf(x));
        due(29, "the input is empty", 0, () -> x.account(14));
        due(29, "one change", 1, () -> x.account(15));
        due(29, "k", 1, () -> run(x, "k0"));
        due(29, "recast", 0, () -> x.account(4));
        due(29, "an hour", 1, () -> run(x, "h1"));
        due(29, "numbers with a 0 ahead", 5, () -> run(x, "c01;b005;m10s0;r1;h07"));
        due(29, "its pounds", 474, () -> x.account(1));
        due(29, "twenty orders", 20,
            () -> run(new BellCores(), "c1;c1;c1;c1;c1;c1;c1;c1;c1;c1;c1;c1;c1;c1;c1;c1;c1;c1;c1;c10"));
        due(29, "the empty text", ARGUMENT, x::run);
        String before = accountsOf(x) + bellsOf(x);
        due(29, "an error", ARGUMENT, () -> run(x, "c1;x"));
        due(29, "the input is empty after it", 0, () -> x.account(14));
        due(29, "a number that cannot be", ARGUMENT, () -> run(x, "c1;b0"));
        due(29, "the input is empty after that", 0, () -> x.account(14));
        refused(29, "a refusal", x, 5, -1, () -> run(x, "c9;b99;p0>0;h40;t0;t0"));
        due(29, "nothing of them was carried out", before, () -> accountsOf(x) + bellsOf(x));
        runErrors();
        runRefusals();
    }

    private static void runErrors() {
        String[] wrongs = {"c0", "c21", "b0", "b501", "m9s0", "m61s0", "m10s5", "r0", "p0>0", "h0", "h49", "t0", "k0",
            "r1;p0>0", "m10s0;p0>0", "r1;m10s0;p0>1"};
        for (String text : wrongs) {
            BellCores x = new BellCores();
            due(29, text, ARGUMENT, () -> run(x, text));
            due(29, text + " has no error", -1, x::errorPosition);
            due(29, text + " keeps no reason", NONE, () -> x.refusal(false));
            due(29, text + " changes nothing", 0, () -> x.account(15));
        }
        BellCores kept = new BellCores();
        due(29, "a first refusal", REFUSED, () -> run(kept, "r1;r1;r1;r1;r1"));
        due(29, "then a wrong order", ARGUMENT, () -> run(kept, "c1;t0"));
        due(29, "the reason stays", 4, () -> kept.refusal(true));
        due(29, "a wrong order ahead of one that is refused", ARGUMENT, () -> run(kept, "t0;r1;r1;r1;r1;r1"));
        due(29, "a refused order ahead of a wrong one", REFUSED, () -> run(kept, "m10s0;r1;p0>0;t0"));
        due(29, "its detail", 60, () -> kept.refusal(true));
    }

    private static void runRefusals() {
        BellCores x = full();
        refused(29, "pounds", x, 1, 2000, () -> run(x, "c1;b1"));
        refused(29, "moulds", x, 1, 8,
            () -> run(x, "m10s0;m10s0;m10s0;m10s0;m10s0;m10s0;m10s0;m10s0;m10s0"));
        refused(29, "places", x, 1, 3,
            () -> run(x, "r1;m10s0;p0>0;m10s0;p0>0;m10s0;p0>0;m10s0;p0>0"));
        refused(29, "warmth", x, 4, 20, () -> run(x, "r1;m10s0;p0>0;t0"));
        refused(29, "the rack", x, 5, 0, () -> run(x, "r1;m10s0;p0>0;k0"));
        refused(29, "the hall", x, 5, -1, () -> run(x, "r9;m10s0;p0>0;h2;t0;t0"));
        due(29, "nothing was carried out", 0, () -> x.account(2) + x.account(3) + x.account(4));
        BellCores cold = new BellCores();
        refused(29, "heat", cold, 3, 760, () -> run(cold, "b500;m10s0;r1;p0>0"));
        BellCores empty = new BellCores();
        refused(29, "bronze", empty, 2, 60, () -> run(empty, "m10s0;r1;p0>0"));
    }

    private static void errorPosition() {
        Object[][] texts = {{"", 0}, {"x", 0}, {";", 0}, {"c", 1}, {"cc", 1}, {"c1", -1}, {"c12", -1}, {"c123", 3},
            {"c1;", 3}, {"c1;;", 3}, {"c1 ;", 2}, {"C1", 0}, {"b", 1}, {"b123", -1}, {"b1234", 4}, {"b1s", 2},
            {"m", 1}, {"ms", 1}, {"m1", 2}, {"m12", 3}, {"m123", 3}, {"m10s", 4}, {"m10s1", -1}, {"m10s12", 5},
            {"m10>1", 3}, {"m10;", 3}, {"r", 1}, {"r1", -1}, {"r12", 2}, {"rs", 1}, {"p", 1}, {"p0", 2}, {"p00", 2},
            {"p0>", 3}, {"p0>0", -1}, {"p0>00", 4}, {"p0s0", 2}, {"h", 1}, {"h123", 3}, {"t1", -1}, {"t", 1},
            {"t123", 3}, {"k", 1}, {"k123", 3}, {"kk", 1}, {"c1;h1;x", 6}, {"c1;h1;m10", 9}, {"c\u0661", 1},
            {"\u0163", 0}, {"c1;b1;r1;m10s0;", 15}};
        for (Object[] row : texts) {
            BellCores x = new BellCores();
            answerOf(() -> run(x, (String) row[0]));
            due(30, "the error position of '" + row[0] + "'", row[1], x::errorPosition);
        }
        BellCores x = new BellCores();
        x.append('c');
        due(30, "ahead of run", -1, x::errorPosition);
        answerOf(x::run);
        due(30, "after it", 1, x::errorPosition);
        x.coal(1);
        x.undo();
        due(30, "it stays", 1, x::errorPosition);
        due(30, "run", 1, () -> run(x, "c1"));
        due(30, "without an error", -1, x::errorPosition);
    }

    private static void refusal() {
        BellCores x = new BellCores();
        due(31, "refusal(false)", NONE, () -> x.refusal(false));
        due(31, "refusal(true)", NONE, () -> x.refusal(true));
        answerOf(() -> x.coal(0));
        answerOf(() -> x.strike(0));
        due(31, "other exceptions", NONE, () -> x.refusal(true));
        x.save();
        x.rack(1);
        x.mould(10, 1);
        answerOf(() -> x.pour(0, 0));
        due(31, "the reason", 2, () -> x.refusal(false));
        due(31, "the detail", 60, () -> x.refusal(true));
        answerOf(() -> x.coal(0));
        x.coal(1);
        x.undo();
        x.undo();
        x.restore();
        due(31, "the reason stays", 2, () -> x.refusal(false));
        due(31, "the detail stays", 60, () -> x.refusal(true));
    }

    private static void account() {
        BellCores x = cracked(3);
        due(32, "account(-1)", ARGUMENT, () -> x.account(-1));
        due(32, "account(16)", ARGUMENT, () -> x.account(16));
        x.mould(50, 0);
        x.append('c');
        x.append('1');
        // 310 and twice 60 pounds; a heat of 1400 less 62, 3 hours, twice 12 and 48 hours.
        due(32, "the accounts", "1059 1570 1 2 3 1 430 2000 0 80 51 3 3 0 2 8", () -> accountsOf(x));
        x.take(1);
        x.recast(0);
        due(32, "the accounts then", "1059 1849 1 2 2 1 120 2000 31 80 51 0 3 1 2 8", () -> accountsOf(x));
        x.undo();
        due(32, "the accounts after undo", "1059 1570 1 2 3 2 430 2000 0 80 51 3 3 1 2 7", () -> accountsOf(x));
    }

    private static void isWell() {
        due(33, "a new one", true, () -> new BellCores().isWell());
        BellCores x = cracked(5);
        due(33, "with a cracked bell", true, x::isWell);
        x.ring(0);
        x.file(0, 3);
        due(33, "rung and filed", true, x::isWell);
        x.mould(60, 1);
        x.mould(10, 1);
        due(33, "with moulds", true, x::isWell);
        x.recast(0);
        due(33, "recast", true, x::isWell);
        x.undo();
        due(33, "undone", true, x::isWell);
        due(33, "with a peal", true, () -> hallOf(30, 28, 26, 25, 23, 21, 19, 18).isWell());
        BellCores crowded = full();
        crowded.rack(1);
        for (int i = 0; i < 3; i++) {
            cast(crowded, 20, 4, 0);
        }
        due(33, "with a full rack", true, crowded::isWell);
        due(33, "where the ways differ", true, () -> moulds(1400, 180, 10, 30, 10, 10).isWell());
    }

    private static void meanNote() {
        due(34, "no bells", ARITHMETIC, () -> new BellCores().meanNote());
        BellCores x = hallOf(20, 30);
        due(34, "two bells", 75.0, x::meanNote);
        cast(x, 10, 4, 0);
        due(34, "and one on a rack", 80.0, x::meanNote);
        x.file(0, 1);
        due(34, "and a mark", 241.0 / 3.0, x::meanNote);
        BellCores cracked = cracked(2);
        due(34, "with cracks", 218.0 / 3.0, cracked::meanNote);
    }

    private static void soundShare() {
        due(35, "no bells", ARITHMETIC, () -> new BellCores().soundShare());
        BellCores x = cracked(1);
        due(35, "two of three", 2.0f / 3.0f, x::soundShare);
        x.recast(0);
        due(35, "all", 1.0f, x::soundShare);
        BellCores none = full();
        none.rack(9);
        cast(none, 20, 0, 0);
        none.pass(1);
        due(35, "none", 0.0f, none::soundShare);
    }

    private static void undo() {
        BellCores x = new BellCores();
        due(36, "nothing to undo", STATE, x::undo);
        for (int i = 0; i < 10; i++) {
            x.coal(1);
        }
        due(36, "the changes", 8, () -> x.account(15));
        for (int left = 7; left >= 0; left--) {
            int l = left;
            due(36, "undo", l, x::undo);
            due(36, "the heat", 20 + 30 * (l + 2), () -> x.account(0));
        }
        due(36, "no more", STATE, x::undo);
        due(36, "the loads", 2, () -> x.account(9));
        answerOf(() -> x.coal(0));
        answerOf(() -> x.bronze(0));
        x.save();
        x.pourable(true);
        due(36, "nothing of that is a change", 0, () -> x.account(15));
        undoEachChange();
    }

    private static void undoEachChange() {
        dueUndone("coal", x -> x.coal(2));
        dueUndone("bronze", x -> x.bronze(2));
        dueUndone("mould", x -> x.mould(11, 2));
        dueUndone("smash", x -> x.smash(0));
        dueUndone("rack", x -> x.rack(5));
        dueUndone("strike", x -> x.strike(1));
        dueUndone("pour", x -> x.pour(0, 1));
        dueUndone("pass", x -> x.pass(3));
        dueUndone("take", x -> x.take(1));
        dueUndone("ring", x -> x.ring(0));
        dueUndone("file", x -> x.file(0, 2));
        dueUndone("recast", x -> x.recast(0));
        dueUndone("run", x -> run(x, "c1;b1;m10s1;t1;t2;k0"));
    }

    /** Makes room for the change first, by undoing the coal ahead of it. */
    private static void dueUndone(String what, Function<BellCores, Object> change) {
        BellCores x = cracked(2);
        x.mould(10, 1);
        x.coal(1);
        x.undo();
        String before = stateOf(x);
        int changes = x.account(15);
        change.apply(x);
        due(36, what + " is a change", changes + 1, () -> x.account(15));
        due(36, what + " changes", false, () -> before.equals(stateOf(x)));
        due(36, what + " is undone", changes, x::undo);
        due(36, what + " leaves no trace", before, () -> stateOf(x));
    }

    /** All that changes can change. */
    private static String stateOf(BellCores x) {
        StringBuilder state = new StringBuilder(bellsOf(x));
        for (int what = 0; what < 14; what++) {
            state.append(x.account(what)).append(' ');
        }
        for (int mould = 0; mould < x.account(2); mould++) {
            state.append("m").append(x.mouldOf(mould, 0)).append(' ').append(x.mouldOf(mould, 1));
        }
        for (int rack = 0; rack < x.account(3); rack++) {
            state.append("r").append(x.rackOf(rack, 0));
        }
        for (int bell = 0; bell < x.account(4); bell++) {
            state.append("n").append(x.note(bell, true));
        }
        return state.toString();
    }

    private static void saveAndRestore() {
        BellCores x = cracked(2);
        due(38, "restore without a snapshot", STATE, x::restore);
        due(37, "save", 3, x::save);
        due(37, "save is no change", 8, () -> x.account(15));
        String saved = stateOf(x);
        x.ring(0);
        x.recast(0);
        x.mould(10, 1);
        x.coal(3);
        x.strike(1);
        x.append('c');
        x.line(0);
        due(38, "restore", 3, x::restore);
        due(38, "the state", saved, () -> stateOf(x));
        due(38, "no change can be undone", 0, () -> x.account(15));
        due(38, "undo", STATE, x::undo);
        due(38, "the input stays", 1, () -> x.account(14));
        due(38, "the line stays", "0@0n90", () -> lineOf(x));
        x.recast(0);
        x.undo();
        x.take(1);
        due(38, "restore again", 3, x::restore);
        due(38, "the state again", saved, () -> stateOf(x));
        x.recast(0);
        due(37, "save in place of it", 2, x::save);
        x.take(0);
        x.undo();
        x.undo();
        due(37, "undo leaves the snapshot", 2, x::restore);
        due(38, "the later state", 2, () -> x.account(4));
        due(37, "of a new one", 0, () -> new BellCores().save());
    }

    public static void main(String[] args) {
        newObject();
        coal();
        bronze();
        mould();
        smash();
        mouldOf();
        rack();
        strike();
        rackOf();
        pour();
        pass();
        take();
        ring();
        file();
        recast();
        bellOf();
        note();
        wouldCrack();
        coldIn();
        peal();
        longest();
        ranked();
        pourable();
        first();
        line();
        rackLine();
        character();
        append();
        runOrders();
        errorPosition();
        refusal();
        account();
        isWell();
        meanNote();
        soundShare();
        undo();
        saveAndRestore();
        System.out.println(wrong == 0 ? checks + " answers are as due" : wrong + " answers are not as due");
        if (wrong != 0) {
            System.exit(1);
        }
    }
}
