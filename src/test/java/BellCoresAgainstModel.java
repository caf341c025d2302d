import java.util.ArrayDeque;
import java.util.ArrayList;
import java.util.Deque;
import java.util.HashSet;
import java.util.List;
import java.util.NoSuchElementException;
import java.util.Random;
import java.util.Set;
import java.util.function.Supplier;
import java.util.regex.Matcher;
import java.util.regex.Pattern;

/**
 * Long runs of drawn calls, each answered by BellCores and by a second, slow telling of the document: hour by hour,
 * order by order, way by way. The draws come from fixed seeds, so that a run that fails can be run again.
 */
public final class BellCoresAgainstModel {
    private static final int LONG_RUNS = 1500;
    private static final int POURING_RUNS = 3000;
    private static final int CALLS = 512;
    // A step that writes a line asks for each of its characters.
    private static final int CALLS_OF_A_STEP = 30;
    private static final int[] PEAL_CORES = {30, 28, 26, 25, 23, 21, 19, 18};

    /** What the model answers instead of a number: the name of the exception that is due. */
    private static final class Due extends RuntimeException {
        private static final long serialVersionUID = 1L;
        final String name;

        Due(String name) {
            super(name, null, false, false);
            this.name = name;
        }
    }

    private static final class Mould {
        final int core;
        final int sand;

        Mould(int core, int sand) {
            this.core = core;
            this.sand = sand;
        }

        int pounds() {
            return core * 5 + 10;
        }

        int need() {
            return core * 8 + 700;
        }
    }

    private static final class Rack {
        final int draught;

        Rack(int draught) {
            this.draught = draught;
        }
    }

    private static final class Bell {
        final Mould mould;
        Rack rack;
        int warmth;
        int cracks;
        int marks;

        Bell(Mould mould, Rack rack, int warmth, int cracks, int marks) {
            this.mould = mould;
            this.rack = rack;
            this.warmth = warmth;
            this.cracks = cracks;
            this.marks = marks;
        }

        int told() {
            return 100 - mould.core + marks - cracks;
        }
    }

    /** All that changes can change. Racks and moulds never change themselves, so that copies share them. */
    private static final class State {
        int heat = 20;
        int pounds;
        int brought;
        int lost;
        int loads;
        int hours;
        int poured;
        final List<Mould> moulds = new ArrayList<>();
        final List<Rack> racks = new ArrayList<>();
        final List<Bell> bells = new ArrayList<>();

        State copy() {
            State copy = new State();
            copy.heat = heat;
            copy.pounds = pounds;
            copy.brought = brought;
            copy.lost = lost;
            copy.loads = loads;
            copy.hours = hours;
            copy.poured = poured;
            copy.moulds.addAll(moulds);
            copy.racks.addAll(racks);
            for (Bell bell : bells) {
                copy.bells.add(new Bell(bell.mould, bell.rack, bell.warmth, bell.cracks, bell.marks));
            }
            return copy;
        }

        int on(Rack rack) {
            int on = 0;
            for (Bell bell : bells) {
                on += bell.rack == rack ? 1 : 0;
            }
            return on;
        }

        int loss(Rack rack) {
            return rack.draught + 2 * (3 - on(rack));
        }

        int hour() {
            heat = Math.max(20, heat - 5);
            hours++;
            int came = 0;
            for (Bell bell : bells) {
                if (bell.rack == null || bell.warmth == 0) {
                    continue;
                }
                int loss = loss(bell.rack);
                bell.warmth = Math.max(0, bell.warmth - loss);
                if (loss > 6 + 2 * bell.mould.sand && bell.cracks < 9) {
                    bell.cracks++;
                    came++;
                }
            }
            return came;
        }
    }

    private static final class Model {
        private static final String ORDER =
            "(?:[chtk][0-9]{1,2}|b[0-9]{1,3}|m[0-9]{1,2}s[0-9]|r[0-9]|p[0-9]>[0-9])";
        private static final Pattern TEXT = Pattern.compile(ORDER + "(?:;" + ORDER + ")*");

        State now = new State();
        State snapshot;
        final Deque<State> past = new ArrayDeque<>();
        String input = "";
        String line = "";
        int error = -1;
        int reason;
        int detail;

        private void done(State before) {
            past.addLast(before);
            if (past.size() > 8) {
                past.removeFirst();
            }
        }

        private void refuse(int why, int what) {
            reason = why;
            detail = what;
            throw new Due("UnsupportedOperationException");
        }

        private static void need(boolean holds, String otherwise) {
            if (!holds) {
                throw new Due(otherwise);
            }
        }

        private static void argument(int number, int least, int greatest) {
            need(number >= least && number <= greatest, "IllegalArgumentException");
        }

        private Mould mouldAt(int mould) {
            need(mould >= 0 && mould < now.moulds.size(), "IndexOutOfBoundsException");
            return now.moulds.get(mould);
        }

        private Rack rackAt(int rack) {
            need(rack >= 0 && rack < now.racks.size(), "IndexOutOfBoundsException");
            return now.racks.get(rack);
        }

        private Bell bellAt(int bell) {
            need(bell >= 0 && bell < now.bells.size(), "IndexOutOfBoundsException");
            return now.bells.get(bell);
        }

        private int placeOf(Bell bell) {
            return bell.rack == null ? -1 : now.racks.indexOf(bell.rack);
        }

        int coal(int loads) {
            argument(loads, 1, 20);
            for (int i = 0; i < loads; i++) {
                now.heat = Math.min(1400, now.heat + 30);
                now.loads++;
            }
            return now.heat;
        }

        int bronze(int pounds) {
            argument(pounds, 1, 500);
            if (now.pounds + pounds > 2000) {
                refuse(1, 2000);
            }
            now.pounds += pounds;
            now.brought += pounds;
            return now.pounds;
        }

        int mould(int core, int sand) {
            argument(core, 10, 60);
            argument(sand, 0, 4);
            if (now.moulds.size() == 8) {
                refuse(1, 8);
            }
            now.moulds.add(new Mould(core, sand));
            return now.moulds.size() - 1;
        }

        int smash(int mould) {
            now.moulds.remove(mouldAt(mould));
            return now.moulds.size();
        }

        int mouldOf(int number, int what) {
            Mould mould = mouldAt(number);
            argument(what, 0, 4);
            return new int[] {mould.core, mould.sand, mould.pounds(), mould.need(), 100 - mould.core}[what];
        }

        int rack(int draught) {
            argument(draught, 1, 9);
            if (now.racks.size() == 4) {
                refuse(1, 4);
            }
            now.racks.add(new Rack(draught));
            return now.racks.size() - 1;
        }

        int strike(int number) {
            Rack rack = rackAt(number);
            if (now.on(rack) > 0) {
                refuse(6, now.on(rack));
            }
            now.racks.remove(rack);
            return now.racks.size();
        }

        int rackOf(int number, int what) {
            Rack rack = rackAt(number);
            argument(what, 0, 2);
            return new int[] {rack.draught, now.on(rack), now.loss(rack)}[what];
        }

        int pour(int mouldNumber, int rackNumber) {
            Mould mould = mouldAt(mouldNumber);
            Rack rack = rackAt(rackNumber);
            if (now.bells.size() == 12) {
                refuse(1, 12);
            }
            if (now.on(rack) == 3) {
                refuse(1, 3);
            }
            if (now.pounds < mould.pounds()) {
                refuse(2, mould.pounds() - now.pounds);
            }
            if (now.heat < mould.need()) {
                refuse(3, mould.need() - now.heat);
            }
            now.moulds.remove(mould);
            now.pounds -= mould.pounds();
            now.heat = Math.max(20, now.heat - mould.pounds() / 5);
            now.bells.add(new Bell(mould, rack, 2 * mould.core, 0, 0));
            now.poured++;
            return now.bells.size() - 1;
        }

        int pass(int hours) {
            argument(hours, 1, 48);
            int came = 0;
            for (int i = 0; i < hours; i++) {
                came += now.hour();
            }
            return came;
        }

        int take(int number) {
            Bell bell = bellAt(number);
            if (bell.rack == null) {
                refuse(5, -1);
            }
            if (bell.warmth > 0) {
                refuse(4, bell.warmth);
            }
            int rack = placeOf(bell);
            bell.rack = null;
            return rack;
        }

        private void needHall(Bell bell) {
            if (bell.rack != null) {
                refuse(5, placeOf(bell));
            }
        }

        int ring(int number) {
            Bell bell = bellAt(number);
            needHall(bell);
            int told = bell.told();
            if (bell.cracks >= 2) {
                bell.cracks = Math.min(9, bell.cracks + 1);
            }
            return told;
        }

        int file(int number, int marks) {
            Bell bell = bellAt(number);
            argument(marks, 1, 6);
            needHall(bell);
            if (bell.marks + marks > 6) {
                refuse(7, bell.marks);
            }
            bell.marks += marks;
            return bell.told();
        }

        int recast(int number) {
            Bell bell = bellAt(number);
            needHall(bell);
            int gone = bell.mould.pounds() / 10;
            int back = bell.mould.pounds() - gone;
            if (now.pounds + back > 2000) {
                refuse(1, 2000);
            }
            now.pounds += back;
            now.lost += gone;
            now.bells.remove(bell);
            return back;
        }

        int bellOf(int number, int what) {
            Bell bell = bellAt(number);
            argument(what, 0, 6);
            return new int[] {bell.mould.core, bell.mould.sand, bell.mould.pounds(), placeOf(bell), bell.warmth,
                bell.cracks, bell.marks}[what];
        }

        int wouldCrack(int number, int hours) {
            bellAt(number);
            argument(hours, 0, 48);
            State later = now.copy();
            for (int i = 0; i < hours; i++) {
                later.hour();
            }
            return later.bells.get(number).cracks;
        }

        int coldIn(int number) {
            bellAt(number);
            State later = now.copy();
            int hours = 0;
            while (later.bells.get(number).warmth > 0) {
                later.hour();
                hours++;
            }
            return hours;
        }

        int peal(int note) {
            argument(note, 0, 100);
            Set<Integer> hall = new HashSet<>();
            for (Bell bell : now.bells) {
                if (bell.rack == null) {
                    hall.add(bell.told());
                }
            }
            int length = 0;
            for (int step : List.of(0, 2, 4, 5, 7, 9, 11, 12)) {
                if (!hall.contains(note + step)) {
                    break;
                }
                length++;
            }
            return length;
        }

        int longest() {
            need(account(5) > 0, "NoSuchElementException");
            int best = 100;
            for (int note = 100; note >= 0; note--) {
                best = peal(note) >= peal(best) ? note : best;
            }
            return best;
        }

        int ranked(int place) {
            need(place >= 0 && place < now.bells.size(), "NoSuchElementException");
            List<Bell> sorted = new ArrayList<>(now.bells);
            sorted.sort((one, other) -> other.told() - one.told());
            return now.bells.indexOf(sorted.get(place));
        }

        int pourable(boolean isBest) {
            return isBest ? most(now.moulds, now.heat, now.pounds, new int[1], 0) : hottest();
        }

        private int hottest() {
            List<Mould> sorted = new ArrayList<>(now.moulds);
            sorted.sort((one, other) -> other.core - one.core);
            int heat = now.heat;
            int pounds = now.pounds;
            int count = 0;
            for (Mould mould : sorted) {
                if (heat >= mould.need() && pounds >= mould.pounds()) {
                    heat -= mould.pounds() / 5;
                    pounds -= mould.pounds();
                    count++;
                }
            }
            return count;
        }

        /** Tries every order; keeps the best number of moulds so far, to give up where it cannot be beaten. */
        private static int most(List<Mould> moulds, int heat, int pounds, int[] best, int already) {
            best[0] = Math.max(best[0], already);
            for (int i = 0; i < moulds.size() && already + moulds.size() > best[0]; i++) {
                Mould mould = moulds.get(i);
                if (heat >= mould.need() && pounds >= mould.pounds()) {
                    List<Mould> others = new ArrayList<>(moulds);
                    others.remove(i);
                    most(others, Math.max(20, heat - mould.pounds() / 5), pounds - mould.pounds(), best, already + 1);
                }
            }
            return best[0];
        }

        int first() {
            int best = pourable(true);
            need(best > 0, "NoSuchElementException");
            for (int i = 0; i < now.moulds.size(); i++) {
                Mould mould = now.moulds.get(i);
                if (now.heat >= mould.need() && now.pounds >= mould.pounds()) {
                    List<Mould> others = new ArrayList<>(now.moulds);
                    others.remove(i);
                    int heat = Math.max(20, now.heat - mould.pounds() / 5);
                    if (most(others, heat, now.pounds - mould.pounds(), new int[1], 0) + 1 == best) {
                        return i;
                    }
                }
            }
            throw new IllegalStateException("the model has no first mould");
        }

        int line(int number) {
            Bell bell = bellAt(number);
            String place = bell.rack == null ? "h" : "" + placeOf(bell);
            line = number + "@" + place + "n" + bell.told() + "!".repeat(bell.cracks);
            return line.length();
        }

        int rackLine(int number) {
            Rack rack = rackAt(number);
            List<String> parts = new ArrayList<>();
            for (int i = 0; i < now.bells.size(); i++) {
                if (now.bells.get(i).rack == rack) {
                    parts.add(i + "w" + now.bells.get(i).warmth);
                }
            }
            line = String.join(" ", parts);
            return line.length();
        }

        int character(int index) {
            need(index >= 0 && index < line.length(), "IndexOutOfBoundsException");
            return line.charAt(index);
        }

        int append(char c) {
            need(input.length() < 60, "IllegalStateException");
            input += c;
            return input.length();
        }

        private static boolean canBegin(String start) {
            Matcher matcher = TEXT.matcher(start);
            return matcher.matches() || matcher.hitEnd();
        }

        private static int errorIn(String text) {
            for (int i = 0; i < text.length(); i++) {
                if (!canBegin(text.substring(0, i + 1))) {
                    return i;
                }
            }
            return TEXT.matcher(text).matches() ? -1 : text.length();
        }

        int run() {
            String text = input;
            input = "";
            error = errorIn(text);
            need(error < 0, "IllegalArgumentException");
            State before = now.copy();
            String[] orders = text.split(";");
            try {
                for (String order : orders) {
                    obey(order);
                }
            } catch (Due due) {
                now = before;
                throw due.name.equals("UnsupportedOperationException") ? due : new Due("IllegalArgumentException");
            }
            done(before);
            return orders.length;
        }

        private void obey(String order) {
            String[] numbers = order.substring(1).split("[s>]");
            int number = Integer.parseInt(numbers[0]);
            switch (order.charAt(0)) {
                case 'c': coal(number); break;
                case 'b': bronze(number); break;
                case 'm': mould(number, Integer.parseInt(numbers[1])); break;
                case 'r': rack(number); break;
                case 'p': pour(number, Integer.parseInt(numbers[1])); break;
                case 'h': pass(number); break;
                case 't': take(number); break;
                default: recast(number);
            }
        }

        int refusal(boolean isDetail) {
            need(reason > 0, "NoSuchElementException");
            return isDetail ? detail : reason;
        }

        int account(int what) {
            argument(what, 0, 15);
            int inHall = 0;
            int pounds = 0;
            int cracks = 0;
            int sound = 0;
            for (Bell bell : now.bells) {
                inHall += bell.rack == null ? 1 : 0;
                pounds += bell.mould.pounds();
                cracks += bell.cracks;
                sound += bell.rack == null && bell.cracks == 0 ? 1 : 0;
            }
            return new int[] {now.heat, now.pounds, now.moulds.size(), now.racks.size(), now.bells.size(), inHall,
                pounds, now.brought, now.lost, now.loads, now.hours, cracks, now.poured, sound, input.length(),
                past.size()}[what];
        }

        double meanNote() {
            need(!now.bells.isEmpty(), "ArithmeticException");
            int sum = 0;
            for (Bell bell : now.bells) {
                sum += bell.told();
            }
            return (double) sum / now.bells.size();
        }

        float soundShare() {
            need(!now.bells.isEmpty(), "ArithmeticException");
            int sound = 0;
            for (Bell bell : now.bells) {
                sound += bell.cracks == 0 ? 1 : 0;
            }
            return (float) sound / (float) now.bells.size();
        }

        int undo() {
            need(!past.isEmpty(), "IllegalStateException");
            now = past.removeLast();
            return past.size();
        }

        int save() {
            snapshot = now.copy();
            return now.bells.size();
        }

        int restore() {
            need(snapshot != null, "IllegalStateException");
            now = snapshot.copy();
            past.clear();
            return now.bells.size();
        }

        /** A change that the model carries out is remembered; one that throws is not. */
        Object change(Supplier<Object> call) {
            State before = now.copy();
            Object answer = call.get();
            done(before);
            return answer;
        }
    }

    private final Random random;
    private final BellCores real = new BellCores();
    private final Model model = new Model();
    private final Deque<Character> typing = new ArrayDeque<>();
    private final boolean isBusy;
    private int calls = 0;

    private BellCoresAgainstModel(int seed) {
        random = new Random(seed);
        isBusy = seed % 3 != 0;
    }

    /** A number from the least to the greatest, and now and then one just outside, or far away. */
    private int drawn(int least, int greatest) {
        int kind = random.nextInt(40);
        if (kind == 0) {
            return least - 1;
        }
        if (kind == 1) {
            return greatest + 1;
        }
        if (kind == 2) {
            return random.nextBoolean() ? Integer.MIN_VALUE : Integer.MAX_VALUE;
        }
        if (kind < 6) {
            return random.nextBoolean() ? least : greatest;
        }
        return least + random.nextInt(Math.max(1, greatest - least + 1));
    }

    private int mouldNumber() {
        return drawn(0, model.now.moulds.size() - 1);
    }

    private int rackNumber() {
        return drawn(0, model.now.racks.size() - 1);
    }

    private int bellNumber() {
        return drawn(0, model.now.bells.size() - 1);
    }

    /** Mostly a bell of those in the hall, if there are any. */
    private int hallNumber() {
        List<Integer> hall = new ArrayList<>();
        for (int bell = 0; bell < model.now.bells.size(); bell++) {
            if (model.now.bells.get(bell).rack == null) {
                hall.add(bell);
            }
        }
        return hall.isEmpty() || random.nextInt(4) == 0 ? bellNumber() : hall.get(random.nextInt(hall.size()));
    }

    private Object answerOf(Supplier<Object> supplier) {
        try {
            Object answer = supplier.get();
            return answer instanceof Character ? (Object) (int) (char) answer : answer;
        } catch (Due due) {
            return due.name;
        } catch (IllegalArgumentException | IllegalStateException | IndexOutOfBoundsException | ArithmeticException
            | UnsupportedOperationException | NoSuchElementException thrown) {
            boolean isOwn = thrown.getStackTrace()[0].getClassName().startsWith("BellCores");
            boolean isMachine = String.valueOf(thrown.getMessage()).matches(".*/ by zero.*|Index \\d+ out of.*");
            return isOwn && !isMachine ? thrown.getClass().getSimpleName() : "the machine's " + thrown;
        } catch (RuntimeException thrown) {
            return "unexpected " + thrown;
        }
    }

    private void same(String told, Supplier<Object> ofReal, Supplier<Object> ofModel) {
        calls++;
        Object want = answerOf(ofModel);
        Object got = answerOf(ofReal);
        if (!want.equals(got)) {
            throw new AssertionError(told + " answered " + got + ", due is " + want);
        }
    }

    private void change(String told, Supplier<Object> ofReal, Supplier<Object> ofModel) {
        same(told, ofReal, () -> model.change(ofModel));
    }

    private void step() {
        if (!typing.isEmpty() && random.nextInt(12) > 0) {
            type(typing.removeFirst());
            return;
        }
        int kind = random.nextInt(100);
        if (isBusy && kind < 30) {
            goOn();
        } else if (kind < 46) {
            changeSomething();
        } else if (kind < 88) {
            askSomething();
        } else if (kind < 94) {
            startText();
        } else if (kind < 96) {
            same("undo", real::undo, model::undo);
        } else if (kind < 97) {
            same("save", real::save, model::save);
        } else if (kind < 98) {
            same("restore", real::restore, model::restore);
        } else {
            same("run", real::run, model::run);
        }
    }

    /** Does what brings the foundry on, so that a busy run has many bells, in the hall too, and long peals. */
    private void goOn() {
        State now = model.now;
        int roomyRack = roomyRack();
        int coldBell = coldBell();
        if (now.heat < 1100) {
            change("coal 20", () -> real.coal(20), () -> model.coal(20));
        } else if (now.pounds < 300) {
            change("bronze 500", () -> real.bronze(500), () -> model.bronze(500));
        } else if (now.racks.size() < 4) {
            rack();
        } else if (coldBell >= 0) {
            change("take " + coldBell, () -> real.take(coldBell), () -> model.take(coldBell));
        } else if (now.moulds.isEmpty()) {
            int core = PEAL_CORES[random.nextInt(PEAL_CORES.length)];
            int sand = random.nextInt(5);
            change("mould " + core + " " + sand, () -> real.mould(core, sand), () -> model.mould(core, sand));
        } else if (now.bells.size() < 12 && roomyRack >= 0) {
            change("pour 0 " + roomyRack, () -> real.pour(0, roomyRack), () -> model.pour(0, roomyRack));
        } else {
            pass();
        }
    }

    private int roomyRack() {
        for (int rack = 0; rack < model.now.racks.size(); rack++) {
            if (model.now.on(model.now.racks.get(rack)) < 3) {
                return rack;
            }
        }
        return -1;
    }

    private int coldBell() {
        for (int bell = 0; bell < model.now.bells.size(); bell++) {
            if (model.now.bells.get(bell).rack != null && model.now.bells.get(bell).warmth == 0) {
                return bell;
            }
        }
        return -1;
    }

    private void changeSomething() {
        switch (random.nextInt(22)) {
            case 0: case 1: case 2: coal(); break;
            case 3: case 4: case 5: bronze(); break;
            case 6: case 7: case 8: mould(); break;
            case 9: smash(); break;
            case 10: case 11: rack(); break;
            case 12: strike(); break;
            case 13: case 14: case 15: pour(); break;
            case 16: take(); break;
            case 17: case 18: ring(); break;
            case 19: file(); break;
            case 20: recast(); break;
            default: pass();
        }
    }

    private void coal() {
        int loads = drawn(1, 20);
        change("coal " + loads, () -> real.coal(loads), () -> model.coal(loads));
    }

    private void bronze() {
        int pounds = drawn(1, 500);
        change("bronze " + pounds, () -> real.bronze(pounds), () -> model.bronze(pounds));
    }

    private void mould() {
        int core = random.nextBoolean() ? drawn(10, 60) : drawn(10, 24);
        int sand = drawn(0, 4);
        change("mould " + core + " " + sand, () -> real.mould(core, sand), () -> model.mould(core, sand));
    }

    private void smash() {
        int mould = mouldNumber();
        change("smash " + mould, () -> real.smash(mould), () -> model.smash(mould));
    }

    private void rack() {
        int draught = drawn(1, 9);
        change("rack " + draught, () -> real.rack(draught), () -> model.rack(draught));
    }

    private void strike() {
        int rack = rackNumber();
        change("strike " + rack, () -> real.strike(rack), () -> model.strike(rack));
    }

    private void pour() {
        int mould = mouldNumber();
        int rack = rackNumber();
        change("pour " + mould + " " + rack, () -> real.pour(mould, rack), () -> model.pour(mould, rack));
    }

    private void take() {
        int bell = bellNumber();
        change("take " + bell, () -> real.take(bell), () -> model.take(bell));
    }

    private void ring() {
        int bell = hallNumber();
        change("ring " + bell, () -> real.ring(bell), () -> model.ring(bell));
    }

    private void file() {
        int bell = hallNumber();
        int marks = random.nextBoolean() ? drawn(1, 6) : drawn(1, 2);
        change("file " + bell + " " + marks, () -> real.file(bell, marks), () -> model.file(bell, marks));
    }

    private void recast() {
        int bell = hallNumber();
        change("recast " + bell, () -> real.recast(bell), () -> model.recast(bell));
    }

    private void pass() {
        int hours = random.nextBoolean() ? drawn(1, 48) : drawn(1, 4);
        change("pass " + hours, () -> real.pass(hours), () -> model.pass(hours));
    }

    private void askSomething() {
        switch (random.nextInt(22)) {
            case 0: mouldOf(); break;
            case 1: rackOf(); break;
            case 2: case 3: bellOf(); break;
            case 4: note(); break;
            case 5: case 6: wouldCrack(); break;
            case 7: coldIn(); break;
            case 8: case 9: peal(); break;
            case 10: same("longest", real::longest, model::longest); break;
            case 11: ranked(); break;
            case 12: pourable(); break;
            case 13: same("first", real::first, model::first); break;
            case 14: line(); break;
            case 15: rackLine(); break;
            case 16: refusal(); break;
            case 17: same("errorPosition", real::errorPosition, () -> model.error); break;
            case 18: same("meanNote", real::meanNote, model::meanNote); break;
            case 19: same("soundShare", real::soundShare, model::soundShare); break;
            case 20: same("isWell", real::isWell, () -> true); break;
            default: account();
        }
    }

    private void mouldOf() {
        int mould = mouldNumber();
        int what = drawn(0, 4);
        same("mouldOf " + mould + " " + what, () -> real.mouldOf(mould, what), () -> model.mouldOf(mould, what));
    }

    private void rackOf() {
        int rack = rackNumber();
        int what = drawn(0, 2);
        same("rackOf " + rack + " " + what, () -> real.rackOf(rack, what), () -> model.rackOf(rack, what));
    }

    private void bellOf() {
        int bell = bellNumber();
        int what = drawn(0, 6);
        same("bellOf " + bell + " " + what, () -> real.bellOf(bell, what), () -> model.bellOf(bell, what));
    }

    private void note() {
        int bell = bellNumber();
        boolean isAgain = random.nextBoolean();
        same("note " + bell, () -> real.note(bell, isAgain), () -> model.bellAt(bell).told());
    }

    private void wouldCrack() {
        int bell = bellNumber();
        int hours = drawn(0, 48);
        same("wouldCrack " + bell + " " + hours, () -> real.wouldCrack(bell, hours),
            () -> model.wouldCrack(bell, hours));
    }

    private void coldIn() {
        int bell = bellNumber();
        same("coldIn " + bell, () -> real.coldIn(bell), () -> model.coldIn(bell));
    }

    private void peal() {
        List<Bell> bells = model.now.bells;
        boolean isNear = !bells.isEmpty() && random.nextInt(4) > 0;
        int note = isNear ? bells.get(random.nextInt(bells.size())).told() : drawn(0, 100);
        boolean isAgain = random.nextBoolean();
        same("peal " + note + " " + isAgain, () -> real.peal(note, isAgain), () -> model.peal(note));
    }

    private void ranked() {
        int place = bellNumber();
        same("ranked " + place, () -> real.ranked(place), () -> model.ranked(place));
    }

    private void pourable() {
        boolean isBest = random.nextBoolean();
        same("pourable " + isBest, () -> real.pourable(isBest), () -> model.pourable(isBest));
    }

    private void line() {
        int bell = bellNumber();
        same("line " + bell, () -> real.line(bell), () -> model.line(bell));
        checkLine();
    }

    private void rackLine() {
        int rack = rackNumber();
        same("rackLine " + rack, () -> real.rackLine(rack), () -> model.rackLine(rack));
        checkLine();
    }

    private void checkLine() {
        for (int i = -1; i <= model.line.length(); i++) {
            int index = i;
            same("character " + index, () -> real.character(index), () -> model.character(index));
        }
    }

    private void refusal() {
        boolean isDetail = random.nextBoolean();
        same("refusal " + isDetail, () -> real.refusal(isDetail), () -> model.refusal(isDetail));
    }

    private void account() {
        int what = drawn(0, 15);
        same("account " + what, () -> real.account(what), () -> model.account(what));
    }

    private void type(char c) {
        same("append " + (int) c, () -> real.append(c), () -> model.append(c));
        if (typing.isEmpty()) {
            same("run", real::run, model::run);
            same("errorPosition", real::errorPosition, () -> model.error);
        }
    }

    private void startText() {
        typing.clear();
        StringBuilder text = new StringBuilder();
        int orders = random.nextInt(5) == 0 ? 20 : 1 + random.nextInt(6);
        for (int i = 0; i < orders; i++) {
            text.append(i == 0 ? "" : ";").append(order());
        }
        if (random.nextInt(4) == 0) {
            spoil(text);
        }
        for (char c : text.toString().toCharArray()) {
            typing.addLast(c);
        }
    }

    private String order() {
        switch (random.nextInt(8)) {
            case 0: return "c" + (random.nextInt(20) + 1);
            case 1: return "b" + (random.nextInt(500) + (random.nextInt(9) == 0 ? 0 : 1));
            case 2: return "m" + (random.nextInt(40) + (random.nextInt(9) == 0 ? 0 : 10)) + "s" + random.nextInt(5);
            case 3: return "r" + (random.nextInt(9) + 1);
            case 4: return "p" + digit(model.now.moulds.size()) + ">" + digit(model.now.racks.size());
            case 5: return "h" + (random.nextBoolean() ? "0" : "") + (random.nextInt(9) + 1);
            case 6: return "t" + digit(model.now.bells.size());
            default: return "k" + digit(model.now.bells.size());
        }
    }

    private int digit(int count) {
        return random.nextInt(12) == 0 ? 9 : random.nextInt(Math.min(10, Math.max(1, count)));
    }

    private void spoil(StringBuilder text) {
        int at = random.nextInt(text.length() + 1);
        String letters = "cbmrphtks>;0123456789 x\u00e9\u4e00\u0660\0";
        char letter = letters.charAt(random.nextInt(letters.length()));
        switch (random.nextInt(3)) {
            case 0: text.insert(at, letter); break;
            case 1: text.setLength(at); break;
            default: text.setCharAt(Math.min(at, text.length() - 1), letter);
        }
    }

    private void checkAllKindsOfCalls() {
        while (calls < CALLS - CALLS_OF_A_STEP) {
            step();
        }
    }

    /** Many moulds, and a heat and bronze that are scarce for them: here the ways of pouring differ. */
    private void checkWaysOfPouring() {
        for (int loads = 25 + random.nextInt(25); loads > 0; loads -= 5) {
            int now = Math.min(5, loads);
            change("coal " + now, () -> real.coal(now), () -> model.coal(now));
        }
        int pounds = 1 + random.nextInt(500);
        for (int times = 1 + random.nextInt(3); times > 0; times--) {
            change("bronze " + pounds, () -> real.bronze(pounds), () -> model.bronze(pounds));
        }
        int greatest = 20 + random.nextInt(41);
        for (int moulds = 3 + random.nextInt(6); moulds > 0; moulds--) {
            int core = 10 + random.nextInt(greatest - 9);
            change("mould " + core, () -> real.mould(core, 0), () -> model.mould(core, 0));
        }
        same("pourable true", () -> real.pourable(true), () -> model.pourable(true));
        same("pourable false", () -> real.pourable(false), () -> model.pourable(false));
        same("first", real::first, model::first);
    }

    private static void check(int seed, boolean isLong) {
        BellCoresAgainstModel test = new BellCoresAgainstModel(seed);
        try {
            if (isLong) {
                test.checkAllKindsOfCalls();
            } else {
                test.checkWaysOfPouring();
            }
        } catch (AssertionError wrong) {
            throw new AssertionError("seed " + seed + ", call " + test.calls + ": " + wrong.getMessage());
        }
    }

    public static void main(String[] args) {
        int wrong = 0;
        for (int seed = 0; seed < LONG_RUNS + POURING_RUNS && wrong < 10; seed++) {
            try {
                check(seed, seed < LONG_RUNS);
            } catch (AssertionError error) {
                wrong++;
                System.out.println(error.getMessage());
            }
        }
        System.out.println(wrong == 0 ? LONG_RUNS + POURING_RUNS + " runs answer as the model does"
            : "not all runs answer as the model does");
        if (wrong != 0) {
            System.exit(1);
        }
    }
}
