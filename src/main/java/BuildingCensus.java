import java.util.NoSuchElementException;

/**
 * A census of buildings, their floors and units, and the permits that change them.
 *
 * All numbers of the census stand in tables that are made once; an undo or a snapshot is a copy of
 * these tables, so that no call makes an object but the exception that it throws.
 */
public final class BuildingCensus {
    private static final int MOST_BUILDINGS = 4;
    private static final int MOST_FLOORS = 6;
    private static final int MOST_UNITS = 60;
    private static final int MOST_PERMITS = 40;
    private static final int MOST_CHANGES = 8;
    private static final int LONGEST_INPUT = 60;
    private static final int LONGEST_NUMBER = 3;
    private static final int SHORTEST_FORM = 2;
    private static final int USES = 5;
    private static final int GREATEST_NUMBER = 999;
    private static final int LEAST_FLOOR_AREA = 10;
    private static final int GREATEST_FLOOR_AREA = 999;
    private static final int LAST_DAY = 9999;
    private static final int MOST_DAYS_AT_ONCE = 99;
    private static final int DAYS_BEFORE_LAPSE = 30;

    private static final int ALL = -1;
    private static final int NONE = -1;

    private static final int NEW_UNIT = 0;
    private static final int SPLIT = 1;
    private static final int JOIN = 2;
    private static final int CHANGE = 3;
    private static final int END = 4;
    private static final int NEW_FLOOR = 5;
    private static final int KINDS = 6;
    // Not a kind of permits: told counts are read in the same way as applications.
    private static final int TOLD_COUNT = 6;

    private static final int APPLIED = 0;
    private static final int GRANTED = 1;
    private static final int BEGUN = 2;
    private static final int FINISHED = 3;
    private static final int REFUSED = 4;
    private static final int LAPSED = 5;
    private static final int WITHDRAWN = 6;

    private static final int NOT_THERE = 1;
    private static final int TAKEN = 2;
    private static final int NO_ROOM = 3;
    private static final int WRONG_AREA = 4;
    private static final int TOO_MANY = 5;

    private static final int BUILDING_FLOORS = 0;
    private static final int BUILDING_AREAS = 1;
    private static final int BUILDING_COLUMNS = BUILDING_AREAS + MOST_FLOORS;

    private static final int UNIT_BUILDING = 0;
    private static final int UNIT_FLOOR = 1;
    private static final int UNIT_CAME = 2;
    private static final int UNIT_ENDED = 3;
    private static final int UNIT_GENERATION = 4;
    private static final int UNIT_PERMIT = 5;
    private static final int UNIT_AREAS = 6;
    private static final int UNIT_COLUMNS = UNIT_AREAS + USES;

    // The columns up to PERMIT_DAY are in the order in which permit(.., what) tells them.
    private static final int PERMIT_KIND = 0;
    private static final int PERMIT_ONE = 1;
    private static final int PERMIT_TWO = 2;
    private static final int PERMIT_THREE = 3;
    private static final int PERMIT_FOUR = 4;
    private static final int PERMIT_STAGE = 5;
    private static final int PERMIT_DAY = 6;
    private static final int PERMIT_COLUMNS = 7;
    private static final int REQUEST_COLUMNS = PERMIT_FOUR + 1;

    // The parts of a form; every other sign in a form stands for itself.
    private static final char DIGIT = '#';
    private static final char NUMBER = 'N';
    private static final char AREA = 'A';
    private static final char FLOOR_AREA = 'F';
    private static final char USE = '@';

    private final Records now = new Records();
    private final Works works = new Works(now);
    private final Granting granting = new Granting(now);
    private final History history = new History();
    private final Records replay = new Records();
    private final Works replayWorks = new Works(replay);
    private final Records saved = new Records();
    private final Input input = new Input();
    // The applications, or the told counts, of the present call: a kind and its numbers in each row.
    private final Table requests = new Table(LONGEST_INPUT / SHORTEST_FORM, REQUEST_COLUMNS);
    private boolean isSaved;
    private int lastReason = NONE;
    private int lastError = NONE;

    /** Creates a census without buildings. */
    public BuildingCensus() {
    }

    /** Adds a building with one floor. */
    public int addBuilding(int area) throws IllegalArgumentException, IllegalStateException {
        if (area < LEAST_FLOOR_AREA || area > GREATEST_FLOOR_AREA) {
            throw new IllegalArgumentException("the area of a floor is from 10 to 999");
        }
        if (now.buildings.size() >= MOST_BUILDINGS) {
            throw new IllegalStateException("there are 4 buildings");
        }
        history.keep(now);
        int building = now.buildings.append();
        now.raiseFloor(building, area);
        return building;
    }

    /** Returns a number of a building. */
    public int building(int building, int what) throws IndexOutOfBoundsException, IllegalArgumentException {
        requireBuilding(building);
        switch (what) {
            case 0:
                return now.floorsOf(building);
            case 1:
                return now.floorAreasOf(building);
            case 2:
                return now.tally(now.day, building, ALL, ALL, false);
            case 3:
                return now.tally(now.day, building, ALL, ALL, true);
            default:
                throw new IllegalArgumentException("a building has the numbers 0 to 3");
        }
    }

    /** Returns a number of a floor. */
    public int floor(int building, int floor, int what) throws IndexOutOfBoundsException, IllegalArgumentException {
        if (!now.hasFloor(building, floor)) {
            throw new IndexOutOfBoundsException("there is no such floor");
        }
        switch (what) {
            case 0:
                return now.floorArea(building, floor);
            case 1:
                return now.roomOn(building, floor);
            case 2:
                return now.tally(now.day, building, floor, ALL, false);
            case 3:
                return now.freeRoomOn(building, floor);
            default:
                throw new IllegalArgumentException("a floor has the numbers 0 to 3");
        }
    }

    /** Returns a number of a unit. */
    public int unit(int unit, int what) throws IndexOutOfBoundsException, IllegalArgumentException {
        requireUnit(unit);
        if (what >= 10 && what < 10 + USES) {
            return now.areaOf(unit, what - 10);
        }
        switch (what) {
            case 0:
                return now.units.get(unit, UNIT_BUILDING);
            case 1:
                return now.units.get(unit, UNIT_FLOOR);
            case 2:
                return now.areaOf(unit, ALL);
            case 3:
                return now.units.get(unit, UNIT_CAME);
            case 4:
                return now.units.get(unit, UNIT_ENDED);
            case 5:
                return now.units.get(unit, UNIT_GENERATION);
            case 6:
                return now.parentsOf(unit);
            case 7:
                return now.units.get(unit, UNIT_PERMIT);
            default:
                throw new IllegalArgumentException("a unit has the numbers 0 to 7 and 10 to 14");
        }
    }

    /** Returns a parent of a unit. */
    public int parent(int unit, int index) throws IndexOutOfBoundsException, NoSuchElementException {
        requireUnit(unit);
        if (index < 0 || index >= now.parentsOf(unit)) {
            throw new NoSuchElementException("there is no such parent");
        }
        return now.parentAt(unit, index);
    }

    /** Returns whether a unit is an ancestor of another one. */
    public boolean isAncestor(int unit, int other) throws IndexOutOfBoundsException {
        requireUnit(unit);
        requireUnit(other);
        return now.isAncestorOf(unit, other);
    }

    /** Returns a unit that is present and is a given unit or has it as an ancestor. */
    public int became(int unit, int index) throws IndexOutOfBoundsException, NoSuchElementException {
        requireUnit(unit);
        int heir = now.heirAt(unit, index);
        if (heir == NONE) {
            throw new NoSuchElementException("there is no such unit");
        }
        return heir;
    }

    /** Applies for a permit. */
    public int apply(int kind, int one, int two, int three, int four)
            throws IllegalArgumentException, IllegalStateException {
        requests.clear();
        int request = requests.append();
        requests.put(request, PERMIT_KIND, kind);
        requests.put(request, PERMIT_ONE, one);
        requests.put(request, PERMIT_TWO, two);
        requests.put(request, PERMIT_THREE, three);
        requests.put(request, PERMIT_FOUR, four);
        requireRequestsInRange();
        requireRoomForRequests();
        history.keep(now);
        return now.addPermit(requests, request);
    }

    /** Reads the input as applications, and applies for a permit by each of them, all or none. */
    public int applyAll() throws IllegalArgumentException, IllegalStateException {
        int error = input.readForms(requests, true);
        input.clear();
        requireNoError(error);
        requireRequestsInRange();
        requireRoomForRequests();
        history.keep(now);
        for (int i = 0; i < requests.size(); i++) {
            now.addPermit(requests, i);
        }
        return requests.size();
    }

    /** Grants a permit. */
    public int grant(int permit)
            throws IndexOutOfBoundsException, UnsupportedOperationException, IllegalStateException {
        requireStage(permit, APPLIED, APPLIED);
        int reason = granting.reasonAgainst(permit);
        if (reason != 0) {
            lastReason = reason;
            throw new IllegalStateException("the permit cannot be granted");
        }
        history.keep(now);
        now.setStage(permit, GRANTED);
        return now.openPermits();
    }

    /** Refuses a permit. */
    public int refuse(int permit) throws IndexOutOfBoundsException, UnsupportedOperationException {
        requireStage(permit, APPLIED, APPLIED);
        int reason = granting.reasonAgainst(permit);
        history.keep(now);
        now.setStage(permit, REFUSED);
        return reason;
    }

    /** Begins with a permit. */
    public int begin(int permit) throws IndexOutOfBoundsException, UnsupportedOperationException {
        requireStage(permit, GRANTED, GRANTED);
        int days = now.day - now.permits.get(permit, PERMIT_DAY);
        history.keep(now);
        now.setStage(permit, BEGUN);
        return days;
    }

    /** Finishes a permit, and does what it does. */
    public int finish(int permit) throws IndexOutOfBoundsException, UnsupportedOperationException {
        requireStage(permit, BEGUN, BEGUN);
        history.keep(now);
        now.setStage(permit, FINISHED);
        now.finished.put(now.finished.append(), 0, permit);
        return works.carryOut(permit);
    }

    /** Withdraws a permit. */
    public int withdraw(int permit) throws IndexOutOfBoundsException, UnsupportedOperationException {
        requireStage(permit, APPLIED, BEGUN);
        int stage = now.stageOf(permit);
        history.keep(now);
        now.setStage(permit, WITHDRAWN);
        return stage;
    }

    /** Returns a number of a permit. */
    public int permit(int permit, int what) throws IndexOutOfBoundsException, IllegalArgumentException {
        requirePermit(permit);
        if (what < 0 || what > 7) {
            throw new IllegalArgumentException("a permit has the numbers 0 to 7");
        }
        if (what < PERMIT_COLUMNS) {
            return now.permits.get(permit, what);
        }
        return now.stageOf(permit) == APPLIED ? granting.reasonAgainst(permit) : 0;
    }

    /** Returns the reason for which a permit was not granted last. */
    public int reason() throws NoSuchElementException {
        if (lastReason == NONE) {
            throw new NoSuchElementException("every permit was granted so far");
        }
        return lastReason;
    }

    /** Lets days pass. */
    public int pass(int days) throws IllegalArgumentException, IllegalStateException {
        if (days < 1 || days > MOST_DAYS_AT_ONCE) {
            throw new IllegalArgumentException("1 to 99 days can pass");
        }
        if (now.day + days > LAST_DAY) {
            throw new IllegalStateException("the last day is 9999");
        }
        history.keep(now);
        int lapsed = 0;
        for (int i = 0; i < days; i++) {
            now.day++;
            lapsed += now.lapsePermits();
        }
        return lapsed;
    }

    /** Returns how many units are there at a day, or their area. */
    public int count(int day, int building, int use, boolean isArea)
            throws IndexOutOfBoundsException, IllegalArgumentException {
        requireBuildingAndUseOrAll(building, use);
        requireDay(day);
        return now.tally(day, building, ALL, use, isArea);
    }

    /** Returns the same as count, by carrying out the finished permits once more. */
    public int replayed(int day, int building, int use, boolean isArea)
            throws IndexOutOfBoundsException, IllegalArgumentException {
        requireBuildingAndUseOrAll(building, use);
        requireDay(day);
        replay.copyFrom(now);
        replayWorks.carryOutAgain(day);
        return replay.tally(day, building, ALL, use, isArea);
    }

    /** Returns the mean area of the units that are there at a day. */
    public double meanArea(int day) throws IllegalArgumentException, ArithmeticException {
        requireDay(day);
        int units = now.tally(day, ALL, ALL, ALL, false);
        if (units <= 0) {
            throw new ArithmeticException("there are no units at this day");
        }
        return (double) now.tally(day, ALL, ALL, ALL, true) / (double) units;
    }

    /** Returns the first day at which the most units are there. */
    public int fullestDay() {
        int fullest = 0;
        int most = now.tally(0, ALL, ALL, ALL, false);
        // Units get more only on days on which one comes, and a unit with a higher number comes no earlier.
        for (int unit = 0; unit < now.units.size(); unit++) {
            int day = now.units.get(unit, UNIT_CAME);
            int units = now.tally(day, ALL, ALL, ALL, false);
            if (units > most) {
                most = units;
                fullest = day;
            }
        }
        return fullest;
    }

    /** Reads the input as told counts and checks them for a day. */
    public int check(int day) throws IllegalArgumentException {
        // The input is to be empty afterwards also if the day is wrong; its text is not read then.
        int error = now.isDay(day) ? input.readForms(requests, false) : NONE;
        input.clear();
        requireDay(day);
        requireNoError(error);
        for (int i = 0; i < requests.size(); i++) {
            if (!isToldRight(i, day)) {
                return i;
            }
        }
        return NONE;
    }

    /** Appends a character to the input. */
    public int feed(char character) throws IllegalStateException {
        if (input.length() >= LONGEST_INPUT) {
            throw new IllegalStateException("the input has 60 characters");
        }
        input.append(character);
        return input.length();
    }

    /** Returns the error position of the text that was read last with an error. */
    public int errorPosition() throws NoSuchElementException {
        if (lastError == NONE) {
            throw new NoSuchElementException("no text had an error");
        }
        return lastError;
    }

    /** Returns a number of the census. */
    public int total(int what) throws IllegalArgumentException {
        switch (what) {
            case 0:
                return now.day;
            case 1:
                return now.buildings.size();
            case 2:
                return now.units.size();
            case 3:
                return now.presentUnits();
            case 4:
                return now.permits.size();
            case 5:
                return now.openPermits();
            case 6:
                return now.finished.size();
            case 7:
                return history.size();
            case 8:
                return input.length();
            default:
                throw new IllegalArgumentException("the census has the numbers 0 to 8");
        }
    }

    /** Undoes the latest change that was not undone. */
    public int undo() throws IllegalStateException {
        if (history.size() <= 0) {
            throw new IllegalStateException("there is no change to undo");
        }
        history.takeBack(now);
        return history.size();
    }

    /** Saves the day, the buildings, the units and the permits. */
    public int save() {
        saved.copyFrom(now);
        isSaved = true;
        return now.presentUnits();
    }

    /** Restores what was saved last, which stays saved. */
    public int restore() throws IllegalStateException {
        if (!isSaved) {
            throw new IllegalStateException("nothing was saved");
        }
        now.copyFrom(saved);
        history.clear();
        return now.presentUnits();
    }

    private boolean isToldRight(int told, int day) {
        int building = requests.get(told, PERMIT_ONE);
        return now.buildings.has(building)
                && now.tally(day, building, ALL, ALL, false) == requests.get(told, PERMIT_TWO)
                && now.tally(day, building, ALL, ALL, true) == requests.get(told, PERMIT_THREE);
    }

    private void requireBuilding(int building) {
        if (!now.buildings.has(building)) {
            throw new IndexOutOfBoundsException("there is no such building");
        }
    }

    private void requireBuildingAndUseOrAll(int building, int use) {
        if (building != ALL) {
            requireBuilding(building);
        }
        if (use != ALL && (use < 0 || use >= USES)) {
            throw new IndexOutOfBoundsException("there is no such use");
        }
    }

    private void requireUnit(int unit) {
        if (!now.units.has(unit)) {
            throw new IndexOutOfBoundsException("there is no such unit");
        }
    }

    private void requirePermit(int permit) {
        if (!now.permits.has(permit)) {
            throw new IndexOutOfBoundsException("there is no such permit");
        }
    }

    private void requireStage(int permit, int lowest, int highest) {
        requirePermit(permit);
        int stage = now.stageOf(permit);
        if (stage < lowest || stage > highest) {
            throw new UnsupportedOperationException("the stage of the permit does not allow this");
        }
    }

    private void requireDay(int day) {
        if (!now.isDay(day)) {
            throw new IllegalArgumentException("the day is from 0 to the present one");
        }
    }

    private void requireNoError(int error) {
        if (error != NONE) {
            lastError = error;
            throw new IllegalArgumentException("the text has an error");
        }
    }

    private void requireRequestsInRange() {
        for (int i = 0; i < requests.size(); i++) {
            if (!Forms.isInRange(requests, i)) {
                throw new IllegalArgumentException("a number of the application is out of range");
            }
        }
    }

    private void requireRoomForRequests() {
        if (now.permits.size() + requests.size() > MOST_PERMITS) {
            throw new IllegalStateException("there are 40 permits at most");
        }
    }

    /** Rows of numbers; a cell that there is not is 0 when it is read, and stays so when it is written. */
    private static final class Table {
        private final int columns;
        private final int[] cells;
        private int rows;

        Table(int mostRows, int columns) {
            this.columns = columns;
            this.cells = new int[mostRows > 0 && columns > 0 ? mostRows * columns : 0];
        }

        int size() {
            return rows;
        }

        boolean has(int row) {
            return row >= 0 && row < rows;
        }

        int get(int row, int column) {
            if (row < 0 || row >= rows || column < 0 || column >= columns) {
                return 0;
            }
            int cell = row * columns + column;
            return cell >= 0 && cell < cells.length ? cells[cell] : 0;
        }

        void put(int row, int column, int value) {
            if (row < 0 || row >= rows || column < 0 || column >= columns) {
                return;
            }
            int cell = row * columns + column;
            if (cell >= 0 && cell < cells.length) {
                cells[cell] = value;
            }
        }

        /** Returns the number of a new row of zeros, NONE if the table is full. */
        int append() {
            if ((rows + 1) * columns > cells.length) {
                return NONE;
            }
            rows++;
            for (int column = 0; column < columns; column++) {
                put(rows - 1, column, 0);
            }
            return rows - 1;
        }

        void clear() {
            rows = 0;
        }

        void copyFrom(Table other) {
            if (other.cells.length == cells.length) {
                System.arraycopy(other.cells, 0, cells, 0, cells.length);
                rows = other.rows;
            }
        }
    }

    /** The day, the buildings, the units and the permits: all that an undo or a snapshot brings back. */
    private static final class Records {
        private int day;
        private final Table buildings = new Table(MOST_BUILDINGS, BUILDING_COLUMNS);
        private final Table units = new Table(MOST_UNITS, UNIT_COLUMNS);
        private final Table permits = new Table(MOST_PERMITS, PERMIT_COLUMNS);
        /** The finished permits, in the order in which they were finished. */
        private final Table finished = new Table(MOST_PERMITS, 1);

        Records() {
        }

        void copyFrom(Records other) {
            day = other.day;
            buildings.copyFrom(other.buildings);
            units.copyFrom(other.units);
            permits.copyFrom(other.permits);
            finished.copyFrom(other.finished);
        }

        boolean isDay(int number) {
            return number >= 0 && number <= day;
        }

        int floorsOf(int building) {
            return buildings.get(building, BUILDING_FLOORS);
        }

        boolean hasFloor(int building, int floor) {
            return floor >= 0 && floor < floorsOf(building);
        }

        int floorArea(int building, int floor) {
            return buildings.get(building, BUILDING_AREAS + floor);
        }

        int floorAreasOf(int building) {
            int sum = 0;
            for (int floor = 0; floor < floorsOf(building); floor++) {
                sum += floorArea(building, floor);
            }
            return sum;
        }

        int raiseFloor(int building, int area) {
            int floor = floorsOf(building);
            buildings.put(building, BUILDING_FLOORS, floor + 1);
            buildings.put(building, BUILDING_AREAS + floor, area);
            return floor;
        }

        int roomOn(int building, int floor) {
            return floorArea(building, floor) - tally(day, building, floor, ALL, true);
        }

        int freeRoomOn(int building, int floor) {
            int room = roomOn(building, floor);
            for (int permit = 0; permit < permits.size(); permit++) {
                if (isOpen(permit) && kindOf(permit) == NEW_UNIT
                        && permits.get(permit, PERMIT_ONE) == building && permits.get(permit, PERMIT_TWO) == floor) {
                    room -= permits.get(permit, PERMIT_THREE);
                }
            }
            return room;
        }

        /** Returns how many units are there at a day, or their area; building, floor and use may be ALL. */
        int tally(int atDay, int building, int floor, int use, boolean isArea) {
            int sum = 0;
            for (int unit = 0; unit < units.size(); unit++) {
                if (isThere(unit, atDay) && isOn(unit, building, floor)) {
                    int area = areaOf(unit, use);
                    int one = use == ALL || area > 0 ? 1 : 0;
                    sum += isArea ? area : one;
                }
            }
            return sum;
        }

        int presentUnits() {
            return tally(day, ALL, ALL, ALL, false);
        }

        private boolean isThere(int unit, int atDay) {
            int ended = units.get(unit, UNIT_ENDED);
            return units.get(unit, UNIT_CAME) <= atDay && (ended == NONE || ended > atDay);
        }

        private boolean isOn(int unit, int building, int floor) {
            return (building == ALL || units.get(unit, UNIT_BUILDING) == building)
                    && (floor == ALL || units.get(unit, UNIT_FLOOR) == floor);
        }

        boolean isPresent(int unit) {
            return units.has(unit) && units.get(unit, UNIT_ENDED) == NONE;
        }

        int areaOf(int unit, int use) {
            if (use != ALL) {
                return units.get(unit, UNIT_AREAS + use);
            }
            int sum = 0;
            for (int each = 0; each < USES; each++) {
                sum += units.get(unit, UNIT_AREAS + each);
            }
            return sum;
        }

        int parentsOf(int unit) {
            switch (permits.get(units.get(unit, UNIT_PERMIT), PERMIT_KIND)) {
                case SPLIT:
                case CHANGE:
                    return 1;
                case JOIN:
                    return 2;
                default:
                    return 0;
            }
        }

        int parentAt(int unit, int index) {
            int permit = units.get(unit, UNIT_PERMIT);
            int one = permits.get(permit, PERMIT_ONE);
            if (permits.get(permit, PERMIT_KIND) != JOIN) {
                return one;
            }
            int two = permits.get(permit, PERMIT_TWO);
            return index == 0 ? Math.min(one, two) : Math.max(one, two);
        }

        boolean isAncestorOf(int unit, int other) {
            return unit != other && (lineOf(unit) >> other & 1L) != 0;
        }

        /** Returns a bit for a unit and for each one that has it as an ancestor: there are at most 60. */
        private long lineOf(int unit) {
            long line = 1L << unit;
            // Parents have lower numbers than the units that come of them, so that one way up finds all.
            for (int later = unit + 1; later < units.size(); later++) {
                if ((parentBits(later) & line) != 0) {
                    line |= 1L << later;
                }
            }
            return line;
        }

        private long parentBits(int unit) {
            long bits = 0;
            for (int i = 0; i < parentsOf(unit); i++) {
                bits |= 1L << parentAt(unit, i);
            }
            return bits;
        }

        /** Returns the present unit that a unit became, with this index, NONE if there is none. */
        int heirAt(int unit, int index) {
            long line = lineOf(unit);
            int found = 0;
            for (int heir = unit; heir < units.size(); heir++) {
                if (isPresent(heir) && (line >> heir & 1L) != 0) {
                    if (found == index) {
                        return heir;
                    }
                    found++;
                }
            }
            return NONE;
        }

        int kindOf(int permit) {
            return permits.get(permit, PERMIT_KIND);
        }

        int stageOf(int permit) {
            return permits.get(permit, PERMIT_STAGE);
        }

        void setStage(int permit, int stage) {
            permits.put(permit, PERMIT_STAGE, stage);
            permits.put(permit, PERMIT_DAY, day);
        }

        boolean isOpen(int permit) {
            int stage = stageOf(permit);
            return stage == GRANTED || stage == BEGUN;
        }

        int openPermits() {
            int open = 0;
            for (int permit = 0; permit < permits.size(); permit++) {
                open += isOpen(permit) ? 1 : 0;
            }
            return open;
        }

        int addPermit(Table requests, int request) {
            int permit = permits.append();
            for (int column = PERMIT_KIND; column <= PERMIT_FOUR; column++) {
                permits.put(permit, column, requests.get(request, column));
            }
            setStage(permit, APPLIED);
            return permit;
        }

        /** Lets the permits lapse whose time is over, and returns how many these are. */
        int lapsePermits() {
            int lapsed = 0;
            for (int permit = 0; permit < permits.size(); permit++) {
                if (stageOf(permit) == GRANTED && day - permits.get(permit, PERMIT_DAY) > DAYS_BEFORE_LAPSE) {
                    setStage(permit, LAPSED);
                    lapsed++;
                }
            }
            return lapsed;
        }
    }

    /** Finds the reason for which a permit cannot be granted. */
    private static final class Granting {
        private final Records records;

        Granting(Records records) {
            this.records = records;
        }

        /** Returns the first reason against a permit, 0 if there is none. */
        int reasonAgainst(int permit) {
            if (!isAllThere(permit)) {
                return NOT_THERE;
            }
            if (isTaken(permit)) {
                return TAKEN;
            }
            int one = records.permits.get(permit, PERMIT_ONE);
            int two = records.permits.get(permit, PERMIT_TWO);
            int three = records.permits.get(permit, PERMIT_THREE);
            if (records.kindOf(permit) == NEW_UNIT && three > records.freeRoomOn(one, two)) {
                return NO_ROOM;
            }
            if (!isAreaPossible(permit)) {
                return WRONG_AREA;
            }
            return isTooMany(permit) ? TOO_MANY : 0;
        }

        private boolean isAllThere(int permit) {
            int one = records.permits.get(permit, PERMIT_ONE);
            int two = records.permits.get(permit, PERMIT_TWO);
            switch (records.kindOf(permit)) {
                case NEW_UNIT:
                    return records.hasFloor(one, two);
                case NEW_FLOOR:
                    return records.buildings.has(one);
                case JOIN:
                    return one != two && records.isPresent(one) && records.isPresent(two) && isOneFloor(one, two);
                default:
                    return records.isPresent(one);
            }
        }

        private boolean isOneFloor(int unit, int other) {
            return records.units.get(unit, UNIT_BUILDING) == records.units.get(other, UNIT_BUILDING)
                    && records.units.get(unit, UNIT_FLOOR) == records.units.get(other, UNIT_FLOOR);
        }

        private boolean isTaken(int permit) {
            int one = records.permits.get(permit, PERMIT_ONE);
            int two = records.permits.get(permit, PERMIT_TWO);
            if (!isOfUnits(permit)) {
                return false;
            }
            for (int other = 0; other < records.permits.size(); other++) {
                if (records.isOpen(other)
                        && (tells(other, one) || records.kindOf(permit) == JOIN && tells(other, two))) {
                    return true;
                }
            }
            return false;
        }

        private boolean isOfUnits(int permit) {
            int kind = records.kindOf(permit);
            return kind != NEW_UNIT && kind != NEW_FLOOR;
        }

        private boolean tells(int permit, int unit) {
            return isOfUnits(permit) && records.permits.get(permit, PERMIT_ONE) == unit
                    || records.kindOf(permit) == JOIN && records.permits.get(permit, PERMIT_TWO) == unit;
        }

        private boolean isAreaPossible(int permit) {
            int unit = records.permits.get(permit, PERMIT_ONE);
            int area = records.permits.get(permit, PERMIT_TWO);
            switch (records.kindOf(permit)) {
                case SPLIT:
                    return area < records.areaOf(unit, ALL);
                case CHANGE:
                    return area <= records.areaOf(unit, records.permits.get(permit, PERMIT_THREE));
                default:
                    return true;
            }
        }

        private boolean isTooMany(int permit) {
            return unitsWith(permit) > MOST_UNITS
                    || records.kindOf(permit) == NEW_FLOOR && floorsWith(permit) > MOST_FLOORS;
        }

        private int unitsWith(int permit) {
            int units = records.units.size() + newUnits(permit);
            for (int other = 0; other < records.permits.size(); other++) {
                if (records.isOpen(other)) {
                    units += newUnits(other);
                }
            }
            return units;
        }

        private int floorsWith(int permit) {
            int building = records.permits.get(permit, PERMIT_ONE);
            int floors = records.floorsOf(building) + 1;
            for (int other = 0; other < records.permits.size(); other++) {
                if (records.isOpen(other) && records.kindOf(other) == NEW_FLOOR
                        && records.permits.get(other, PERMIT_ONE) == building) {
                    floors++;
                }
            }
            return floors;
        }

        private int newUnits(int permit) {
            switch (records.kindOf(permit)) {
                case NEW_UNIT:
                case JOIN:
                case CHANGE:
                    return 1;
                case SPLIT:
                    return 2;
                default:
                    return 0;
            }
        }
    }

    /** Does what finished permits do. */
    private static final class Works {
        private final Records records;

        Works(Records records) {
            this.records = records;
        }

        /** Carries out all permits that were finished up to a day, on floors without units. */
        void carryOutAgain(int lastDay) {
            records.units.clear();
            for (int building = 0; building < records.buildings.size(); building++) {
                records.buildings.put(building, BUILDING_FLOORS, 1);
            }
            for (int i = 0; i < records.finished.size(); i++) {
                int permit = records.finished.get(i, 0);
                if (records.permits.get(permit, PERMIT_DAY) <= lastDay) {
                    carryOut(permit);
                }
            }
        }

        /** Returns the first unit that came, or the floor that was added, or NONE. */
        int carryOut(int permit) {
            int one = records.permits.get(permit, PERMIT_ONE);
            int two = records.permits.get(permit, PERMIT_TWO);
            switch (records.kindOf(permit)) {
                case NEW_UNIT:
                    return addUnit(permit, one, two);
                case SPLIT:
                    return splitUnit(permit, one, two);
                case JOIN:
                    return joinUnits(permit, one, two);
                case CHANGE:
                    return changeUnit(permit, one, two);
                case END:
                    endUnit(one, permit);
                    return NONE;
                default:
                    return records.raiseFloor(one, two);
            }
        }

        private int addUnit(int permit, int building, int floor) {
            int unit = bringUnit(permit, building, floor);
            addArea(unit, records.permits.get(permit, PERMIT_FOUR), records.permits.get(permit, PERMIT_THREE));
            return unit;
        }

        private int splitUnit(int permit, int unit, int area) {
            endUnit(unit, permit);
            int first = bringChild(unit, permit);
            int second = bringChild(unit, permit);
            shareAreas(unit, first, area);
            for (int use = 0; use < USES; use++) {
                addArea(second, use, records.areaOf(unit, use) - records.areaOf(first, use));
            }
            return first;
        }

        private int joinUnits(int permit, int one, int two) {
            endUnit(one, permit);
            endUnit(two, permit);
            int higher = generationOf(one) >= generationOf(two) ? one : two;
            int unit = bringChild(higher, permit);
            for (int use = 0; use < USES; use++) {
                addArea(unit, use, records.areaOf(one, use) + records.areaOf(two, use));
            }
            return unit;
        }

        private int changeUnit(int permit, int old, int area) {
            endUnit(old, permit);
            int unit = bringChild(old, permit);
            for (int use = 0; use < USES; use++) {
                addArea(unit, use, records.areaOf(old, use));
            }
            addArea(unit, records.permits.get(permit, PERMIT_THREE), -area);
            addArea(unit, records.permits.get(permit, PERMIT_FOUR), area);
            return unit;
        }

        private void endUnit(int unit, int permit) {
            records.units.put(unit, UNIT_ENDED, records.permits.get(permit, PERMIT_DAY));
        }

        private int generationOf(int unit) {
            return records.units.get(unit, UNIT_GENERATION);
        }

        /** Brings a unit on the floor of its parent, of two parents the one of the greater generation. */
        private int bringChild(int parent, int permit) {
            int building = records.units.get(parent, UNIT_BUILDING);
            int floor = records.units.get(parent, UNIT_FLOOR);
            int unit = bringUnit(permit, building, floor);
            records.units.put(unit, UNIT_GENERATION, generationOf(parent) + 1);
            return unit;
        }

        private int bringUnit(int permit, int building, int floor) {
            int unit = records.units.append();
            records.units.put(unit, UNIT_BUILDING, building);
            records.units.put(unit, UNIT_FLOOR, floor);
            records.units.put(unit, UNIT_CAME, records.permits.get(permit, PERMIT_DAY));
            records.units.put(unit, UNIT_ENDED, NONE);
            records.units.put(unit, UNIT_PERMIT, permit);
            return unit;
        }

        private void addArea(int unit, int use, int area) {
            records.units.put(unit, UNIT_AREAS + use, records.areaOf(unit, use) + area);
        }

        /** Gives the first part of a unit that is split its area of each use. */
        private void shareAreas(int unit, int first, int area) {
            int whole = records.areaOf(unit, ALL);
            if (whole <= 0) {
                return;
            }
            for (int use = 0; use < USES; use++) {
                addArea(first, use, records.areaOf(unit, use) * area / whole);
            }
            int missing = area - records.areaOf(first, ALL);
            int givenBits = 0;
            for (int i = 0; i < missing && i < USES; i++) {
                int use = useOfGreatestRest(unit, area, givenBits);
                addArea(first, use, 1);
                givenBits |= 1 << use;
            }
        }

        private int useOfGreatestRest(int unit, int area, int leftOutBits) {
            int whole = records.areaOf(unit, ALL);
            int greatest = NONE;
            int found = 0;
            for (int use = 0; use < USES; use++) {
                int rest = whole > 0 ? records.areaOf(unit, use) * area % whole : 0;
                if ((leftOutBits >> use & 1) == 0 && rest > greatest) {
                    greatest = rest;
                    found = use;
                }
            }
            return found;
        }
    }

    /** The records before the latest changes, the latest one first to be taken back. */
    private static final class History {
        private final Records[] past = new Records[MOST_CHANGES];
        private int next;
        private int kept;

        History() {
            for (int i = 0; i < past.length; i++) {
                past[i] = new Records();
            }
        }

        int size() {
            return kept;
        }

        void keep(Records now) {
            Records place = placeAt(next);
            if (place != null) {
                place.copyFrom(now);
                next = (next + 1) % MOST_CHANGES;
                kept = Math.min(kept + 1, MOST_CHANGES);
            }
        }

        void takeBack(Records now) {
            int latest = (next + MOST_CHANGES - 1) % MOST_CHANGES;
            Records place = placeAt(latest);
            if (place != null && kept > 0) {
                now.copyFrom(place);
                next = latest;
                kept--;
            }
        }

        void clear() {
            kept = 0;
        }

        private Records placeAt(int index) {
            return index >= 0 && index < past.length ? past[index] : null;
        }
    }

    /** The forms of applications and told counts, and the ranges of their numbers. */
    private static final class Forms {
        private Forms() {
        }

        static String formOf(int kind) {
            switch (kind) {
                case NEW_UNIT:
                    return "u##=A@";
                case SPLIT:
                    return "sN:A";
                case JOIN:
                    return "jN+N";
                case CHANGE:
                    return "cN:A@@";
                case END:
                    return "eN";
                case NEW_FLOOR:
                    return "f#=F";
                default:
                    return "#:N,N";
            }
        }

        /** Returns the kind of the applications that begin with a sign, NONE if there is none. */
        static int kindOf(int sign) {
            for (int kind = 0; kind < KINDS; kind++) {
                String form = formOf(kind);
                if (!form.isEmpty() && form.charAt(0) == sign) {
                    return kind;
                }
            }
            return NONE;
        }

        static boolean isNumber(char part) {
            return part == DIGIT || part == NUMBER || part == AREA || part == FLOOR_AREA || part == USE;
        }

        /** Returns whether a request for a permit has the numbers of its kind, in their ranges, and no more. */
        static boolean isInRange(Table requests, int request) {
            int kind = requests.get(request, PERMIT_KIND);
            if (kind < 0 || kind >= KINDS) {
                return false;
            }
            String form = formOf(kind);
            int column = PERMIT_ONE;
            for (int i = 0; i < form.length(); i++) {
                char part = form.charAt(i);
                if (isNumber(part)) {
                    int number = requests.get(request, column);
                    if (number < lowest(part) || number > highest(part)) {
                        return false;
                    }
                    column++;
                }
            }
            for (int rest = column; rest <= PERMIT_FOUR; rest++) {
                if (requests.get(request, rest) != 0) {
                    return false;
                }
            }
            return true;
        }

        private static int lowest(char part) {
            switch (part) {
                case AREA:
                    return 1;
                case FLOOR_AREA:
                    return LEAST_FLOOR_AREA;
                default:
                    return 0;
            }
        }

        private static int highest(char part) {
            switch (part) {
                case DIGIT:
                    return 9;
                case USE:
                    return USES - 1;
                default:
                    return GREATEST_NUMBER;
            }
        }
    }

    /** The input, and the reading of its text. */
    private static final class Input {
        private final char[] signs = new char[LONGEST_INPUT];
        private int length;
        private int position;

        Input() {
        }

        int length() {
            return length;
        }

        void append(char sign) {
            if (length >= 0 && length < signs.length) {
                signs[length] = sign;
                length++;
            }
        }

        void clear() {
            length = 0;
        }

        /**
         * Reads the text as applications or as told counts, into rows of a kind and numbers, and returns
         * its error position, NONE if it has none.
         */
        int readForms(Table rows, boolean areApplications) {
            rows.clear();
            position = 0;
            for (int i = 0; i <= LONGEST_INPUT; i++) {
                int kind = areApplications ? Forms.kindOf(sign()) : TOLD_COUNT;
                if (kind == NONE || !readForm(kind, rows)) {
                    return position;
                }
                if (position >= length) {
                    return NONE;
                }
                if (sign() != ';') {
                    return position;
                }
                position++;
            }
            return position;
        }

        private boolean readForm(int kind, Table rows) {
            int row = rows.append();
            rows.put(row, PERMIT_KIND, kind);
            String form = Forms.formOf(kind);
            int column = PERMIT_ONE;
            for (int i = 0; i < form.length(); i++) {
                char part = form.charAt(i);
                int number = readPart(part);
                if (number == NONE) {
                    return false;
                }
                if (Forms.isNumber(part)) {
                    rows.put(row, column, number);
                    column++;
                }
            }
            return true;
        }

        /** Reads a part of a form, and returns its number, 0 if it has none, NONE if the text has another sign. */
        private int readPart(char part) {
            switch (part) {
                case DIGIT:
                    return readSign('0', '9');
                case USE:
                    return readSign('a', 'e');
                case NUMBER:
                case AREA:
                case FLOOR_AREA:
                    return readNumber();
                default:
                    return readSign(part, part);
            }
        }

        private int readNumber() {
            int number = readSign('0', '9');
            for (int i = 1; i < LONGEST_NUMBER && number != NONE; i++) {
                int digit = readSign('0', '9');
                if (digit == NONE) {
                    return number;
                }
                number = number * 10 + digit;
            }
            return number;
        }

        private int readSign(char first, char last) {
            int sign = sign();
            if (sign < first || sign > last) {
                return NONE;
            }
            position++;
            return sign - first;
        }

        /** Returns the sign at the position, NONE at the end. */
        private int sign() {
            return position >= 0 && position < length && position < signs.length ? signs[position] : NONE;
        }
    }
}
