import java.util.NoSuchElementException;

/** A foundry of bells. What each call answers is told by the document's promises; README.md says how to use it. */
public final class BellCores {
    private static final int MOULD_ROOM = 8;
    private static final int RACK_ROOM = 4;
    private static final int BELL_ROOM = 12;
    private static final int RACK_PLACES = 3;
    private static final int BRONZE_ROOM = 2000;
    private static final int INPUT_ROOM = 60;

    private static final int LEAST_HEAT = 20;
    private static final int GREATEST_HEAT = 1400;
    private static final int HEAT_OF_A_LOAD = 30;
    private static final int HEAT_LOST_IN_AN_HOUR = 5;

    private static final int MOST_LOADS = 20;
    private static final int MOST_POUNDS_AT_ONCE = 500;
    private static final int MOST_HOURS = 48;
    private static final int LEAST_CORE = 10;
    private static final int GREATEST_CORE = 60;
    private static final int GREATEST_SAND = 4;
    private static final int GREATEST_DRAUGHT = 9;
    private static final int GREATEST_NOTE = 100;
    private static final int MOST_MARKS = 6;
    private static final int MOST_CRACKS = 9;
    private static final int CRACKS_THAT_GROW = 2;

    private static final int HALL = -1;

    // The columns of the tables. Those of a bell from CORE to MARKS are numbered as bellOf numbers them.
    private static final int CORE = 0;
    private static final int SAND = 1;
    private static final int POUNDS = 2;
    private static final int RACK = 3;
    private static final int WARMTH = 4;
    private static final int CRACKS = 5;
    private static final int MARKS = 6;
    private static final int TALLY = 7;
    private static final int DRAUGHT = 0;
    private static final int KIND = 0;
    private static final int NUMBER = 1;
    private static final int DIGIT = 2;

    private static final int TOO_MANY = 1;
    private static final int BRONZE_LACKS = 2;
    private static final int HEAT_LACKS = 3;
    private static final int WARM = 4;
    private static final int WRONG_PLACE = 5;
    private static final int RACK_IN_USE = 6;
    private static final int TOO_MANY_MARKS = 7;

    private static final int[] STEPS = {0, 2, 4, 5, 7, 9, 11, 12};

    private final Foundry foundry = new Foundry();
    private final Foundry trial = new Foundry();
    private final History history = new History();
    private final Refusal refused = new Refusal();
    private final Text text = new Text();
    private final Hall hall = new Hall();
    private final Pouring pouring = new Pouring();
    private final StringBuilder written = new StringBuilder();
    private Foundry saved = null;
    private int errorAt = -1;

    public BellCores() {
    }

    // The furnace, moulds and racks.

    public int coal(int loads) throws IllegalArgumentException {
        if (!isWithin(loads, 1, MOST_LOADS)) {
            throw new IllegalArgumentException("the loads are not from 1 to 20");
        }
        history.remember(foundry);
        foundry.burnCoal(loads);
        return foundry.heat;
    }

    public int bronze(int pounds) throws IllegalArgumentException, UnsupportedOperationException {
        if (!isWithin(pounds, 1, MOST_POUNDS_AT_ONCE)) {
            throw new IllegalArgumentException("the pounds are not from 1 to 500");
        }
        if (foundry.refusesPounds(pounds, refused)) {
            throw new UnsupportedOperationException("the furnace would be too full");
        }
        history.remember(foundry);
        foundry.bringBronze(pounds);
        return foundry.pounds;
    }

    public int mould(int core, int sand) throws IllegalArgumentException, UnsupportedOperationException {
        if (!isMould(core, sand)) {
            throw new IllegalArgumentException("the core is not from 10 to 60, or the sand not from 0 to 4");
        }
        if (foundry.refusesMould(refused)) {
            throw new UnsupportedOperationException("there would be too many moulds");
        }
        history.remember(foundry);
        return foundry.makeMould(core, sand);
    }

    public int smash(int mould) throws IndexOutOfBoundsException {
        if (!foundry.moulds.has(mould)) {
            throw new IndexOutOfBoundsException("there is no such mould");
        }
        history.remember(foundry);
        foundry.moulds.drop(mould);
        return foundry.moulds.size();
    }

    public int mouldOf(int mould, int what) throws IndexOutOfBoundsException, IllegalArgumentException {
        if (!foundry.moulds.has(mould)) {
            throw new IndexOutOfBoundsException("there is no such mould");
        }
        int core = foundry.moulds.get(mould, CORE);
        switch (what) {
            case 0:
                return core;
            case 1:
                return foundry.moulds.get(mould, SAND);
            case 2:
                return poundsFor(core);
            case 3:
                return heatFor(core);
            case 4:
                return firstNote(core);
            default:
                throw new IllegalArgumentException("what is not from 0 to 4");
        }
    }

    public int rack(int draught) throws IllegalArgumentException, UnsupportedOperationException {
        if (!isWithin(draught, 1, GREATEST_DRAUGHT)) {
            throw new IllegalArgumentException("the draught is not from 1 to 9");
        }
        if (foundry.refusesRack(refused)) {
            throw new UnsupportedOperationException("there would be too many racks");
        }
        history.remember(foundry);
        return foundry.setRack(draught);
    }

    public int strike(int rack) throws IndexOutOfBoundsException, UnsupportedOperationException {
        if (!foundry.racks.has(rack)) {
            throw new IndexOutOfBoundsException("there is no such rack");
        }
        if (foundry.refusesStrike(rack, refused)) {
            throw new UnsupportedOperationException("there are bells on the rack");
        }
        history.remember(foundry);
        foundry.strikeRack(rack);
        return foundry.racks.size();
    }

    public int rackOf(int rack, int what) throws IndexOutOfBoundsException, IllegalArgumentException {
        if (!foundry.racks.has(rack)) {
            throw new IndexOutOfBoundsException("there is no such rack");
        }
        switch (what) {
            case 0:
                return foundry.racks.get(rack, DRAUGHT);
            case 1:
                return foundry.bellsOn(rack);
            case 2:
                return foundry.lossOn(rack);
            default:
                throw new IllegalArgumentException("what is not from 0 to 2");
        }
    }

    // Bells.

    public int pour(int mould, int rack) throws IndexOutOfBoundsException, UnsupportedOperationException {
        if (!foundry.hasBoth(mould, rack)) {
            throw new IndexOutOfBoundsException("there is no such mould or rack");
        }
        if (foundry.refusesPour(mould, rack, refused)) {
            throw new UnsupportedOperationException("the mould cannot be poured onto the rack");
        }
        history.remember(foundry);
        return foundry.pourMould(mould, rack);
    }

    public int pass(int hours) throws IllegalArgumentException {
        if (!isWithin(hours, 1, MOST_HOURS)) {
            throw new IllegalArgumentException("the hours are not from 1 to 48");
        }
        history.remember(foundry);
        return foundry.letHoursGoBy(hours);
    }

    public int take(int bell) throws IndexOutOfBoundsException, UnsupportedOperationException {
        if (!foundry.bells.has(bell)) {
            throw new IndexOutOfBoundsException("there is no such bell");
        }
        if (foundry.refusesTake(bell, refused)) {
            throw new UnsupportedOperationException("the bell is in the hall, or warm");
        }
        history.remember(foundry);
        return foundry.takeBell(bell);
    }

    public int ring(int bell) throws IndexOutOfBoundsException, UnsupportedOperationException {
        if (!foundry.bells.has(bell)) {
            throw new IndexOutOfBoundsException("there is no such bell");
        }
        if (foundry.refusesOutsideHall(bell, refused)) {
            throw new UnsupportedOperationException("the bell is not in the hall");
        }
        history.remember(foundry);
        return foundry.ringBell(bell);
    }

    public int file(int bell, int marks) throws IndexOutOfBoundsException, IllegalArgumentException, UnsupportedOperationException {
        if (!foundry.bells.has(bell)) {
            throw new IndexOutOfBoundsException("there is no such bell");
        }
        if (!isWithin(marks, 1, MOST_MARKS)) {
            throw new IllegalArgumentException("the marks are not from 1 to 6");
        }
        if (foundry.refusesFile(bell, marks, refused)) {
            throw new UnsupportedOperationException("the bell is not in the hall, or would have too many marks");
        }
        history.remember(foundry);
        foundry.addMarks(bell, marks);
        return foundry.noteOf(bell);
    }

    public int recast(int bell) throws IndexOutOfBoundsException, UnsupportedOperationException {
        if (!foundry.bells.has(bell)) {
            throw new IndexOutOfBoundsException("there is no such bell");
        }
        if (foundry.refusesRecast(bell, refused)) {
            throw new UnsupportedOperationException("the bell is not in the hall, or the furnace would be too full");
        }
        history.remember(foundry);
        return foundry.recastBell(bell);
    }

    public int bellOf(int bell, int what) throws IndexOutOfBoundsException, IllegalArgumentException {
        if (!foundry.bells.has(bell)) {
            throw new IndexOutOfBoundsException("there is no such bell");
        }
        if (!isWithin(what, CORE, MARKS)) {
            throw new IllegalArgumentException("what is not from 0 to 6");
        }
        return foundry.bells.get(bell, what);
    }

    public int note(int bell, boolean isAgain) throws IndexOutOfBoundsException {
        if (!foundry.bells.has(bell)) {
            throw new IndexOutOfBoundsException("there is no such bell");
        }
        return isAgain ? foundry.bells.get(bell, TALLY) : foundry.noteOf(bell);
    }

    public int wouldCrack(int bell, int hours) throws IndexOutOfBoundsException, IllegalArgumentException {
        if (!foundry.bells.has(bell)) {
            throw new IndexOutOfBoundsException("there is no such bell");
        }
        if (!isWithin(hours, 0, MOST_HOURS)) {
            throw new IllegalArgumentException("the hours are not from 0 to 48");
        }
        return foundry.cracksAfter(bell, hours);
    }

    public int coldIn(int bell) throws IndexOutOfBoundsException {
        if (!foundry.bells.has(bell)) {
            throw new IndexOutOfBoundsException("there is no such bell");
        }
        return foundry.hoursUntilCold(bell);
    }

    // Peals and pouring all.

    public int peal(int note, boolean isAgain) throws IllegalArgumentException {
        if (!isWithin(note, 0, GREATEST_NOTE)) {
            throw new IllegalArgumentException("the note is not from 0 to 100");
        }
        if (!isAgain) {
            return foundry.pealBellByBell(note);
        }
        hall.gather(foundry);
        return hall.pealFrom(note);
    }

    public int longest() throws NoSuchElementException {
        if (foundry.bellsOn(HALL) == 0) {
            throw new NoSuchElementException("there are no bells in the hall");
        }
        hall.gather(foundry);
        return hall.startOfLongest();
    }

    public int ranked(int place) throws NoSuchElementException {
        if (!foundry.bells.has(place)) {
            throw new NoSuchElementException("there is no such place");
        }
        return foundry.bellAtPlace(place);
    }

    public int pourable(boolean isBest) {
        pouring.lookAt(foundry);
        return isBest ? pouring.best() : pouring.hottest();
    }

    public int first() throws NoSuchElementException {
        pouring.lookAt(foundry);
        int mould = pouring.firstOfBest();
        if (mould < 0) {
            throw new NoSuchElementException("no mould could be poured");
        }
        return mould;
    }

    // Lines, texts, accounts, undo and snapshot.

    public int line(int bell) throws IndexOutOfBoundsException {
        if (!foundry.bells.has(bell)) {
            throw new IndexOutOfBoundsException("there is no such bell");
        }
        writeBell(bell);
        return written.length();
    }

    public int rackLine(int rack) throws IndexOutOfBoundsException {
        if (!foundry.racks.has(rack)) {
            throw new IndexOutOfBoundsException("there is no such rack");
        }
        writeRack(rack);
        return written.length();
    }

    public char character(int index) throws IndexOutOfBoundsException {
        if (index < 0 || index >= written.length()) {
            throw new IndexOutOfBoundsException("there is no such index in the line");
        }
        return written.charAt(index);
    }

    public int append(char c) throws IllegalStateException {
        if (text.isFull()) {
            throw new IllegalStateException("the input contains 60 characters");
        }
        text.add(c);
        return text.size();
    }

    public int run() throws IllegalArgumentException, UnsupportedOperationException {
        errorAt = text.readOrders();
        text.empty();
        if (errorAt >= 0) {
            throw new IllegalArgumentException("the text has an error");
        }
        Outcome outcome = tryOrders();
        if (outcome == Outcome.WRONG) {
            throw new IllegalArgumentException("an order has a number that cannot be");
        }
        if (outcome == Outcome.REFUSED) {
            throw new UnsupportedOperationException("an order is refused");
        }
        history.remember(foundry);
        foundry.copyFrom(trial);
        return text.orders.size();
    }

    public int errorPosition() {
        return errorAt;
    }

    public int refusal(boolean isDetail) throws NoSuchElementException {
        if (refused.reason == 0) {
            throw new NoSuchElementException("nothing was refused");
        }
        return isDetail ? refused.detail : refused.reason;
    }

    public int account(int what) throws IllegalArgumentException {
        if (!isWithin(what, 0, 15)) {
            throw new IllegalArgumentException("what is not from 0 to 15");
        }
        if (what == 14) {
            return text.size();
        }
        if (what == 15) {
            return history.size();
        }
        return foundry.accountOf(what);
    }

    public boolean isWell() {
        return foundry.areNotesAlike() && arePealsAlike() && foundry.doesBronzeAddUp() && foundry.hasRoomOnRacks()
            && pourable(true) >= pourable(false);
    }

    public double meanNote() throws ArithmeticException {
        int count = foundry.bells.size();
        if (count == 0) {
            throw new ArithmeticException("there are no bells");
        }
        return (double) foundry.sumOfNotes() / (double) count;
    }

    public float soundShare() throws ArithmeticException {
        int count = foundry.bells.size();
        if (count == 0) {
            throw new ArithmeticException("there are no bells");
        }
        return (float) foundry.bells.countOf(CRACKS, 0) / (float) count;
    }

    public int undo() throws IllegalStateException {
        if (history.size() == 0) {
            throw new IllegalStateException("no change can be undone");
        }
        history.goBack(foundry);
        return history.size();
    }

    public int save() {
        if (saved == null) {
            saved = new Foundry();
        }
        saved.copyFrom(foundry);
        return foundry.bells.size();
    }

    public int restore() throws IllegalStateException {
        if (saved == null) {
            throw new IllegalStateException("there is no snapshot");
        }
        foundry.copyFrom(saved);
        history.forget();
        return foundry.bells.size();
    }

    // What the calls share.

    private static boolean isWithin(int number, int least, int greatest) {
        return number >= least && number <= greatest;
    }

    private static boolean isMould(int core, int sand) {
        return isWithin(core, LEAST_CORE, GREATEST_CORE) && isWithin(sand, 0, GREATEST_SAND);
    }

    private static int poundsFor(int core) {
        return 5 * core + 10;
    }

    private static int heatFor(int core) {
        return 700 + 8 * core;
    }

    private static int heatAfterPouring(int heat, int core) {
        return Math.max(LEAST_HEAT, heat - poundsFor(core) / 5);
    }

    private static int firstNote(int core) {
        return 100 - core;
    }

    private void writeBell(int bell) {
        written.setLength(0);
        written.append(bell);
        written.append('@');
        int rack = foundry.bells.get(bell, RACK);
        if (rack == HALL) {
            written.append('h');
        } else {
            written.append(rack);
        }
        written.append('n');
        written.append(foundry.noteOf(bell));
        for (int crack = 0; crack < foundry.bells.get(bell, CRACKS); crack++) {
            written.append('!');
        }
    }

    private void writeRack(int rack) {
        written.setLength(0);
        for (int bell = 0; bell < foundry.bells.size(); bell++) {
            if (foundry.bells.get(bell, RACK) == rack) {
                if (written.length() > 0) {
                    written.append(' ');
                }
                written.append(bell);
                written.append('w');
                written.append(foundry.bells.get(bell, WARMTH));
            }
        }
    }

    private boolean arePealsAlike() {
        hall.gather(foundry);
        for (int note = 0; note <= GREATEST_NOTE; note++) {
            if (hall.pealFrom(note) != foundry.pealBellByBell(note)) {
                return false;
            }
        }
        return true;
    }

    /** Carries the orders out on the trial, so that the foundry is as it was if one of them cannot be. */
    private Outcome tryOrders() {
        trial.copyFrom(foundry);
        for (int order = 0; order < text.orders.size(); order++) {
            int kind = text.orders.get(order, KIND);
            int number = text.orders.get(order, NUMBER);
            int digit = text.orders.get(order, DIGIT);
            Outcome outcome = judge(kind, number, digit);
            if (outcome != Outcome.FINE) {
                return outcome;
            }
            carryOut(kind, number, digit);
        }
        return Outcome.FINE;
    }

    private Outcome judge(int kind, int number, int digit) {
        if (!isPossible(kind, number, digit)) {
            return Outcome.WRONG;
        }
        return isRefused(kind, number, digit) ? Outcome.REFUSED : Outcome.FINE;
    }

    private boolean isPossible(int kind, int number, int digit) {
        switch (kind) {
            case 'c':
                return isWithin(number, 1, MOST_LOADS);
            case 'b':
                return isWithin(number, 1, MOST_POUNDS_AT_ONCE);
            case 'm':
                return isMould(number, digit);
            case 'r':
                return isWithin(number, 1, GREATEST_DRAUGHT);
            case 'p':
                return trial.hasBoth(number, digit);
            case 'h':
                return isWithin(number, 1, MOST_HOURS);
            default:
                return trial.bells.has(number);
        }
    }

    private boolean isRefused(int kind, int number, int digit) {
        switch (kind) {
            case 'b':
                return trial.refusesPounds(number, refused);
            case 'm':
                return trial.refusesMould(refused);
            case 'r':
                return trial.refusesRack(refused);
            case 'p':
                return trial.refusesPour(number, digit, refused);
            case 't':
                return trial.refusesTake(number, refused);
            case 'k':
                return trial.refusesRecast(number, refused);
            default:
                return false;
        }
    }

    private void carryOut(int kind, int number, int digit) {
        switch (kind) {
            case 'c':
                trial.burnCoal(number);
                break;
            case 'b':
                trial.bringBronze(number);
                break;
            case 'm':
                trial.makeMould(number, digit);
                break;
            case 'r':
                trial.setRack(number);
                break;
            case 'p':
                trial.pourMould(number, digit);
                break;
            case 'h':
                trial.letHoursGoBy(number);
                break;
            case 't':
                trial.takeBell(number);
                break;
            default:
                trial.recastBell(number);
                break;
        }
    }

    /** How an order of a text fares: it can be, its method would throw for its numbers, or it is refused. */
    private enum Outcome { FINE, WRONG, REFUSED }

    /** The reason of the latest refusal and its detail; the reason is 0 until there was one. */
    private static final class Refusal {
        int reason = 0;
        int detail = 0;

        /** Always true, so that a judgement can end with it. */
        boolean keep(int newReason, int newDetail) {
            reason = newReason;
            detail = newDetail;
            return true;
        }
    }

    /** Numbered rows of numbers. Every index is looked at here, so that nothing outside can miss. */
    private static final class Table {
        private final int room;
        private final int width;
        private final int[] cells;
        private int rows = 0;

        Table(int room, int width) {
            this.room = Math.max(0, room);
            this.width = Math.max(0, width);
            this.cells = new int[this.room * this.width];
        }

        int size() {
            return rows;
        }

        boolean has(int row) {
            return row >= 0 && row < rows;
        }

        /** Returns 0 where there is no such cell. */
        int get(int row, int column) {
            if (row < 0 || row >= rows || column < 0 || column >= width) {
                return 0;
            }
            return cells[row * width + column];
        }

        /** Does nothing where there is no such cell. */
        void put(int row, int column, int value) {
            if (row < 0 || row >= rows || column < 0 || column >= width) {
                return;
            }
            cells[row * width + column] = value;
        }

        void raise(int row, int column, int by) {
            put(row, column, get(row, column) + by);
        }

        /** Adds a row of zeros and returns its number, or -1 if there is no room. */
        int add() {
            if (rows >= room) {
                return -1;
            }
            for (int cell = rows * width; cell < (rows + 1) * width; cell++) {
                cells[cell] = 0;
            }
            rows++;
            return rows - 1;
        }

        /** Takes a row out: the numbers of those behind it become 1 less. */
        void drop(int row) {
            if (row < 0 || row >= rows) {
                return;
            }
            for (int cell = row * width; cell < (rows - 1) * width; cell++) {
                cells[cell] = cells[cell + width];
            }
            rows--;
        }

        void clear() {
            rows = 0;
        }

        int sumOf(int column) {
            int sum = 0;
            for (int row = 0; row < rows; row++) {
                sum += get(row, column);
            }
            return sum;
        }

        int countOf(int column, int value) {
            if (column < 0 || column >= width) {
                return 0;
            }
            int count = 0;
            for (int row = 0; row < rows; row++) {
                if (cells[row * width + column] == value) {
                    count++;
                }
            }
            return count;
        }

        /** Takes over the rows of a table of the same shape. */
        void copyFrom(Table other) {
            if (other.room != room || other.width != width) {
                return;
            }
            rows = other.rows;
            for (int cell = 0; cell < rows * width; cell++) {
                cells[cell] = other.cells[cell];
            }
        }
    }

    /** All that changes can change. Who calls a change has asked before whether it can be. */
    private static final class Foundry {
        final Table moulds = new Table(MOULD_ROOM, 2);
        final Table racks = new Table(RACK_ROOM, 1);
        final Table bells = new Table(BELL_ROOM, 8);
        int heat = LEAST_HEAT;
        int pounds = 0;
        private int brought = 0;
        private int lost = 0;
        private int loadsBurnt = 0;
        private int hoursGone = 0;
        private int bellsPoured = 0;

        void copyFrom(Foundry other) {
            moulds.copyFrom(other.moulds);
            racks.copyFrom(other.racks);
            bells.copyFrom(other.bells);
            heat = other.heat;
            pounds = other.pounds;
            brought = other.brought;
            lost = other.lost;
            loadsBurnt = other.loadsBurnt;
            hoursGone = other.hoursGone;
            bellsPoured = other.bellsPoured;
        }

        void burnCoal(int loads) {
            heat = Math.min(GREATEST_HEAT, heat + HEAT_OF_A_LOAD * loads);
            loadsBurnt += loads;
        }

        boolean refusesPounds(int more, Refusal refusal) {
            return pounds + more > BRONZE_ROOM && refusal.keep(TOO_MANY, BRONZE_ROOM);
        }

        void bringBronze(int more) {
            pounds += more;
            brought += more;
        }

        boolean refusesMould(Refusal refusal) {
            return moulds.size() >= MOULD_ROOM && refusal.keep(TOO_MANY, MOULD_ROOM);
        }

        int makeMould(int core, int sand) {
            int mould = moulds.add();
            moulds.put(mould, CORE, core);
            moulds.put(mould, SAND, sand);
            return mould;
        }

        boolean refusesRack(Refusal refusal) {
            return racks.size() >= RACK_ROOM && refusal.keep(TOO_MANY, RACK_ROOM);
        }

        int setRack(int draught) {
            int rack = racks.add();
            racks.put(rack, DRAUGHT, draught);
            return rack;
        }

        boolean refusesStrike(int rack, Refusal refusal) {
            int inUse = bellsOn(rack);
            return inUse > 0 && refusal.keep(RACK_IN_USE, inUse);
        }

        void strikeRack(int rack) {
            racks.drop(rack);
            for (int bell = 0; bell < bells.size(); bell++) {
                if (bells.get(bell, RACK) > rack) {
                    bells.raise(bell, RACK, -1);
                }
            }
        }

        /** How many bells are on a rack, or in the hall. */
        int bellsOn(int rack) {
            return bells.countOf(RACK, rack);
        }

        int lossOn(int rack) {
            return racks.get(rack, DRAUGHT) + 2 * (RACK_PLACES - bells.countOf(RACK, rack));
        }

        boolean hasBoth(int mould, int rack) {
            return moulds.has(mould) && racks.has(rack);
        }

        boolean refusesPour(int mould, int rack, Refusal refusal) {
            if (bells.size() >= BELL_ROOM) {
                return refusal.keep(TOO_MANY, BELL_ROOM);
            }
            if (bellsOn(rack) >= RACK_PLACES) {
                return refusal.keep(TOO_MANY, RACK_PLACES);
            }
            int core = moulds.get(mould, CORE);
            if (poundsFor(core) > pounds) {
                return refusal.keep(BRONZE_LACKS, poundsFor(core) - pounds);
            }
            return heatFor(core) > heat && refusal.keep(HEAT_LACKS, heatFor(core) - heat);
        }

        int pourMould(int mould, int rack) {
            int core = moulds.get(mould, CORE);
            int bell = bells.add();
            bells.put(bell, CORE, core);
            bells.put(bell, SAND, moulds.get(mould, SAND));
            bells.put(bell, POUNDS, poundsFor(core));
            bells.put(bell, RACK, rack);
            bells.put(bell, WARMTH, 2 * core);
            bells.put(bell, TALLY, firstNote(core));
            moulds.drop(mould);
            pounds -= poundsFor(core);
            heat = heatAfterPouring(heat, core);
            bellsPoured++;
            return bell;
        }

        /** Returns how many cracks came. No bell moves meanwhile, so that each one loses the same in all the hours. */
        int letHoursGoBy(int hours) {
            heat = Math.max(LEAST_HEAT, heat - HEAT_LOST_IN_AN_HOUR * hours);
            hoursGone += hours;
            int came = 0;
            for (int bell = 0; bell < bells.size(); bell++) {
                int loss = lossOf(bell);
                int more = cracksToCome(bell, loss, hours);
                addCracks(bell, more);
                bells.put(bell, WARMTH, Math.max(0, bells.get(bell, WARMTH) - loss * hours));
                came += more;
            }
            return came;
        }

        /** What a bell would lose in an hour, be there so much warmth or not; nothing in the hall. */
        private int lossOf(int bell) {
            int rack = bells.get(bell, RACK);
            return rack == HALL ? 0 : lossOn(rack);
        }

        /** A bell gets a crack in each hour that finds it warm, if its loss is too great. */
        private int cracksToCome(int bell, int loss, int hours) {
            if (loss <= 6 + 2 * bells.get(bell, SAND)) {
                return 0;
            }
            int hoursThatCrack = Math.min(hours, warmHours(bells.get(bell, WARMTH), loss));
            return Math.min(hoursThatCrack, MOST_CRACKS - bells.get(bell, CRACKS));
        }

        private static int warmHours(int warmth, int loss) {
            return loss <= 0 ? 0 : (warmth + loss - 1) / loss;
        }

        int cracksAfter(int bell, int hours) {
            return bells.get(bell, CRACKS) + cracksToCome(bell, lossOf(bell), hours);
        }

        int hoursUntilCold(int bell) {
            return warmHours(bells.get(bell, WARMTH), lossOf(bell));
        }

        private void addCracks(int bell, int more) {
            bells.raise(bell, CRACKS, more);
            bells.raise(bell, TALLY, -more);
        }

        boolean refusesTake(int bell, Refusal refusal) {
            if (bells.get(bell, RACK) == HALL) {
                return refusal.keep(WRONG_PLACE, HALL);
            }
            int warmth = bells.get(bell, WARMTH);
            return warmth > 0 && refusal.keep(WARM, warmth);
        }

        /** Returns the rack on which the bell was. */
        int takeBell(int bell) {
            int rack = bells.get(bell, RACK);
            bells.put(bell, RACK, HALL);
            return rack;
        }

        boolean refusesOutsideHall(int bell, Refusal refusal) {
            int rack = bells.get(bell, RACK);
            return rack != HALL && refusal.keep(WRONG_PLACE, rack);
        }

        /** Returns the note as it was before the ringing. */
        int ringBell(int bell) {
            int told = noteOf(bell);
            int cracks = bells.get(bell, CRACKS);
            if (cracks >= CRACKS_THAT_GROW && cracks < MOST_CRACKS) {
                addCracks(bell, 1);
            }
            return told;
        }

        boolean refusesFile(int bell, int marks, Refusal refusal) {
            if (refusesOutsideHall(bell, refusal)) {
                return true;
            }
            int before = bells.get(bell, MARKS);
            return before + marks > MOST_MARKS && refusal.keep(TOO_MANY_MARKS, before);
        }

        void addMarks(int bell, int marks) {
            bells.raise(bell, MARKS, marks);
            bells.raise(bell, TALLY, marks);
        }

        private int backByRecast(int bell) {
            int weight = bells.get(bell, POUNDS);
            return weight - weight / 10;
        }

        boolean refusesRecast(int bell, Refusal refusal) {
            return refusesOutsideHall(bell, refusal) || refusesPounds(backByRecast(bell), refusal);
        }

        /** Returns the pounds that came back. */
        int recastBell(int bell) {
            int back = backByRecast(bell);
            pounds += back;
            lost += bells.get(bell, POUNDS) - back;
            bells.drop(bell);
            return back;
        }

        int noteOf(int bell) {
            return firstNote(bells.get(bell, CORE)) + bells.get(bell, MARKS) - bells.get(bell, CRACKS);
        }

        int sumOfNotes() {
            int sum = 0;
            for (int bell = 0; bell < bells.size(); bell++) {
                sum += noteOf(bell);
            }
            return sum;
        }

        /** The bell that has as many bells ahead of it as the place says, or -1. */
        int bellAtPlace(int place) {
            for (int bell = 0; bell < bells.size(); bell++) {
                if (bellsAheadOf(bell) == place) {
                    return bell;
                }
            }
            return -1;
        }

        private int bellsAheadOf(int bell) {
            int note = noteOf(bell);
            int ahead = 0;
            for (int other = 0; other < bells.size(); other++) {
                if (noteOf(other) > note || (noteOf(other) == note && other < bell)) {
                    ahead++;
                }
            }
            return ahead;
        }

        int pealBellByBell(int note) {
            for (int step = 0; step < STEPS.length; step++) {
                if (!isHeard(note + STEPS[step])) {
                    return step;
                }
            }
            return STEPS.length;
        }

        private boolean isHeard(int note) {
            for (int bell = 0; bell < bells.size(); bell++) {
                if (bells.get(bell, RACK) == HALL && noteOf(bell) == note) {
                    return true;
                }
            }
            return false;
        }

        /** An account of those from 0 to 13: the others are not of the foundry. */
        int accountOf(int what) {
            switch (what) {
                case 0:
                    return heat;
                case 1:
                    return pounds;
                case 2:
                    return moulds.size();
                case 3:
                    return racks.size();
                case 4:
                    return bells.size();
                case 5:
                    return bellsOn(HALL);
                case 6:
                    return bells.sumOf(POUNDS);
                case 7:
                    return brought;
                case 8:
                    return lost;
                case 9:
                    return loadsBurnt;
                case 10:
                    return hoursGone;
                case 11:
                    return bells.sumOf(CRACKS);
                case 12:
                    return bellsPoured;
                default:
                    return soundInHall();
            }
        }

        private int soundInHall() {
            int sound = 0;
            for (int bell = 0; bell < bells.size(); bell++) {
                if (bells.get(bell, RACK) == HALL && bells.get(bell, CRACKS) == 0) {
                    sound++;
                }
            }
            return sound;
        }

        boolean areNotesAlike() {
            for (int bell = 0; bell < bells.size(); bell++) {
                if (noteOf(bell) != bells.get(bell, TALLY)) {
                    return false;
                }
            }
            return true;
        }

        boolean doesBronzeAddUp() {
            return brought == pounds + bells.sumOf(POUNDS) + lost;
        }

        boolean hasRoomOnRacks() {
            for (int rack = 0; rack < racks.size(); rack++) {
                if (bellsOn(rack) > RACK_PLACES) {
                    return false;
                }
            }
            return true;
        }
    }

    /** The foundry as it was before each of the latest changes; the oldest gives its place to the newest. */
    private static final class History {
        private static final int ROOM = 8;

        private final Foundry[] before = new Foundry[ROOM];
        private int next = 0;
        private int kept = 0;

        int size() {
            return kept;
        }

        void remember(Foundry now) {
            if (next < 0 || next >= before.length) {
                return;
            }
            Foundry slot = before[next];
            if (slot == null) {
                slot = new Foundry();
                before[next] = slot;
            }
            slot.copyFrom(now);
            next = next + 1 < ROOM ? next + 1 : 0;
            kept = Math.min(ROOM, kept + 1);
        }

        void goBack(Foundry now) {
            int latest = next > 0 ? next - 1 : ROOM - 1;
            if (kept == 0 || latest >= before.length || before[latest] == null) {
                return;
            }
            now.copyFrom(before[latest]);
            next = latest;
            kept--;
        }

        void forget() {
            kept = 0;
        }
    }

    /** The set of all notes in the hall, and the peals by it. */
    private static final class Hall {
        // The highest peal begins at 100 and ends 12 above it.
        private final boolean[] isTold = new boolean[GREATEST_NOTE + 13];

        void gather(Foundry foundry) {
            for (int note = 0; note < isTold.length; note++) {
                isTold[note] = false;
            }
            for (int bell = 0; bell < foundry.bells.size(); bell++) {
                int note = foundry.noteOf(bell);
                if (foundry.bells.get(bell, RACK) == HALL && note >= 0 && note < isTold.length) {
                    isTold[note] = true;
                }
            }
        }

        int pealFrom(int note) {
            for (int step = 0; step < STEPS.length; step++) {
                int wanted = note + STEPS[step];
                if (wanted < 0 || wanted >= isTold.length || !isTold[wanted]) {
                    return step;
                }
            }
            return STEPS.length;
        }

        int startOfLongest() {
            int start = 0;
            for (int note = 1; note <= GREATEST_NOTE; note++) {
                if (pealFrom(note) > pealFrom(start)) {
                    start = note;
                }
            }
            return start;
        }
    }

    /** The ways in which the moulds can be poured one after the other. */
    private static final class Pouring {
        private static final int SETS = 1 << MOULD_ROOM;

        private final int[] cores = new int[MOULD_ROOM];
        private int count = 0;
        private int heat = 0;
        private int pounds = 0;
        // By the set of moulds poured, a bit for each: in what order they were poured does not change what is left.
        private final int[] heatLeft = new int[SETS];
        private final int[] poundsLeft = new int[SETS];
        // By the same sets: how many moulds the best way pours behind those of the set.
        private final int[] mostBehind = new int[SETS];

        void lookAt(Foundry foundry) {
            count = Math.min(MOULD_ROOM, foundry.moulds.size());
            for (int mould = 0; mould < count; mould++) {
                cores[mould] = foundry.moulds.get(mould, CORE);
            }
            heat = foundry.heat;
            pounds = foundry.pounds;
        }

        private static boolean isEnough(int core, int heat, int pounds) {
            return heat >= heatFor(core) && pounds >= poundsFor(core);
        }

        int hottest() {
            int heatNow = heat;
            int poundsNow = pounds;
            int looked = 0;
            int poured = 0;
            for (int turn = 0; turn < count; turn++) {
                int mould = hottestBut(looked);
                looked |= 1 << mould;
                int core = cores[mould];
                if (isEnough(core, heatNow, poundsNow)) {
                    heatNow = heatAfterPouring(heatNow, core);
                    poundsNow -= poundsFor(core);
                    poured++;
                }
            }
            return poured;
        }

        /** The mould with the greatest core that is not in the set, the lowest of several; 0 if all are in it. */
        private int hottestBut(int set) {
            int best = 0;
            int greatest = 0;
            for (int mould = 0; mould < count; mould++) {
                if ((set & (1 << mould)) == 0 && cores[mould] > greatest) {
                    best = mould;
                    greatest = cores[mould];
                }
            }
            return best;
        }

        /** How many moulds the best way pours. */
        int best() {
            weighWhatIsLeft();
            countBehind();
            return mostBehind[0];
        }

        /** The lowest mould with which a best way begins, or -1 if none could be poured. */
        int firstOfBest() {
            int most = best();
            for (int mould = 0; mould < count; mould++) {
                if (most > 0 && pouredWithNext(0, mould) == most) {
                    return mould;
                }
            }
            return -1;
        }

        /** Sets that no way reaches are weighed too: what stands there is asked for by none that a way reaches. */
        private void weighWhatIsLeft() {
            heatLeft[0] = heat;
            poundsLeft[0] = pounds;
            for (int mould = 0; mould < count; mould++) {
                int bit = 1 << mould;
                for (int set = 0; set < bit; set++) {
                    heatLeft[set + bit] = heatAfterPouring(heatLeft[set], cores[mould]);
                    poundsLeft[set + bit] = poundsLeft[set] - poundsFor(cores[mould]);
                }
            }
        }

        /** From the greatest set on, as each one asks for those that have one mould more. */
        private void countBehind() {
            for (int set = (1 << count) - 1; set >= 0; set--) {
                int most = 0;
                for (int mould = 0; mould < count; mould++) {
                    most = Math.max(most, pouredWithNext(set, mould));
                }
                mostBehind[set] = most;
            }
        }

        /** How many moulds can be poured behind those of the set if this is the next one; 0 if it cannot be. */
        private int pouredWithNext(int set, int mould) {
            if (set < 0 || set >= SETS || mould < 0 || mould >= count) {
                return 0;
            }
            int more = set | (1 << mould);
            if (more == set || more >= SETS || !isEnough(cores[mould], heatLeft[set], poundsLeft[set])) {
                return 0;
            }
            return 1 + mostBehind[more];
        }
    }

    /** The input, and the orders that are read from it. */
    private static final class Text {
        private static final int END = -1;
        private static final int NONE = -1;
        // The shortest order has two characters, and one more parts it from the next.
        private static final int ORDER_ROOM = INPUT_ROOM / 3 + 1;

        final Table orders = new Table(ORDER_ROOM, 3);
        private final char[] letters = new char[INPUT_ROOM];
        private int length = 0;
        private int at = 0;

        int size() {
            return length;
        }

        boolean isFull() {
            return length >= letters.length;
        }

        void add(char c) {
            if (!isFull()) {
                letters[length] = c;
                length++;
            }
        }

        void empty() {
            length = 0;
        }

        /** Reads all orders; returns the position of the error, or -1 if there is none. */
        int readOrders() {
            orders.clear();
            at = 0;
            for (int order = 0; order < ORDER_ROOM; order++) {
                if (!readOrder()) {
                    return at;
                }
                if (!skip(';')) {
                    return at == length ? -1 : at;
                }
            }
            return at;
        }

        /** Reads an order; if it is broken, the reading stays at the place that breaks it. */
        private boolean readOrder() {
            int kind = next();
            switch (kind) {
                case 'c':
                case 'h':
                case 't':
                case 'k':
                    at++;
                    return keep(kind, readNumber(2), 0);
                case 'b':
                    at++;
                    return keep(kind, readNumber(3), 0);
                case 'r':
                    at++;
                    return keep(kind, readNumber(1), 0);
                case 'm':
                    at++;
                    return readPair(kind, 2, 's');
                case 'p':
                    at++;
                    return readPair(kind, 1, '>');
                default:
                    return false;
            }
        }

        private boolean readPair(int kind, int mostDigits, char between) {
            int number = readNumber(mostDigits);
            if (number == NONE || !skip(between)) {
                return false;
            }
            return keep(kind, number, readNumber(1));
        }

        private boolean keep(int kind, int number, int digit) {
            if (number == NONE || digit == NONE) {
                return false;
            }
            int order = orders.add();
            orders.put(order, KIND, kind);
            orders.put(order, NUMBER, number);
            orders.put(order, DIGIT, digit);
            return true;
        }

        /** Reads as many digits as there are, up to so many; returns NONE if there is not one. */
        private int readNumber(int mostDigits) {
            int number = NONE;
            for (int digits = 0; digits < mostDigits; digits++) {
                int c = next();
                if (c < '0' || c > '9') {
                    return number;
                }
                number = (number == NONE ? 0 : number * 10) + c - '0';
                at++;
            }
            return number;
        }

        private boolean skip(char c) {
            if (next() != c) {
                return false;
            }
            at++;
            return true;
        }

        private int next() {
            return at >= 0 && at < length && at < letters.length ? letters[at] : END;
        }
    }
}
