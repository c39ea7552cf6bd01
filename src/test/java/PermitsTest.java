import java.util.NoSuchElementException;

/** Promises 9 and 11 to 18: apply, the stages, reasons, pass. */
public final class PermitsTest {
    private static final Class<IllegalArgumentException> ARGUMENT = IllegalArgumentException.class;
    private static final Class<IndexOutOfBoundsException> INDEX = IndexOutOfBoundsException.class;
    private static final Class<IllegalStateException> STATE = IllegalStateException.class;
    private static final Class<UnsupportedOperationException> STAGE = UnsupportedOperationException.class;
    private static final Class<NoSuchElementException> ELEMENT = NoSuchElementException.class;

    public static void main(String[] args) {
        promise9();
        promise9Ranges();
        promise11();
        promise11NotThere();
        promise11Taken();
        promise11Room();
        promise11Areas();
        promise11TooManyUnits();
        promise11TooManyFloors();
        promise12();
        promise13();
        promise14();
        promise15();
        promise16();
        promise17();
        promise18();
        Due.end();
    }

    private static void refused(String what, int reason, BuildingCensus census, int kind, int... numbers) {
        int permit = census.apply(kind, numbers[0], numbers[1], numbers[2], numbers[3]);
        Due.is(what + ", permit(.., 7)", reason, census.permit(permit, 7));
        Due.fails(what, STATE, () -> census.grant(permit));
        Due.is(what + ", reason", reason, census.reason());
        Due.is(what + ", stage", 0, census.permit(permit, 5));
    }

    private static void promise9() {
        BuildingCensus census = new BuildingCensus();
        census.pass(3);
        for (int i = 0; i < 40; i++) {
            Due.is("9: number", i, census.apply(0, 9, 9, 999, 4));
        }
        Due.is("9: stage", 0, census.permit(39, 5));
        Due.is("9: day", 3, census.permit(39, 6));
        Due.fails("9: the 41st", STATE, () -> census.apply(0, 0, 0, 1, 0));
        Due.fails("9: a wrong number goes first", ARGUMENT, () -> census.apply(0, 10, 0, 1, 0));
        Due.is("9: permits", 40, census.total(4));
    }

    private static void promise9Ranges() {
        // For each kind and number the range; 0 to 0 if the kind has no such number.
        int[][][] ranges = {
            {{0, 9}, {0, 9}, {1, 999}, {0, 4}},
            {{0, 999}, {1, 999}, {0, 0}, {0, 0}},
            {{0, 999}, {0, 999}, {0, 0}, {0, 0}},
            {{0, 999}, {1, 999}, {0, 4}, {0, 4}},
            {{0, 999}, {0, 0}, {0, 0}, {0, 0}},
            {{0, 9}, {10, 999}, {0, 0}, {0, 0}},
        };
        for (int kind = 0; kind < ranges.length; kind++) {
            BuildingCensus census = new BuildingCensus();
            for (int place = 0; place < 4; place++) {
                for (int end = 0; end < 2; end++) {
                    int[] good = {ranges[kind][0][0], ranges[kind][1][0], ranges[kind][2][0], ranges[kind][3][0]};
                    good[place] = ranges[kind][place][end];
                    int permit = census.apply(kind, good[0], good[1], good[2], good[3]);
                    for (int i = 0; i < 4; i++) {
                        Due.is("9: number kept", good[i], census.permit(permit, 1 + i));
                    }
                    good[place] += end == 0 ? -1 : 1;
                    int wrongKind = kind;
                    Due.fails("9: kind " + kind + ", number " + place + " is " + good[place], ARGUMENT,
                            () -> census.apply(wrongKind, good[0], good[1], good[2], good[3]));
                }
            }
        }
        BuildingCensus census = new BuildingCensus();
        for (int kind : new int[] {-1, 6, 7, Integer.MAX_VALUE, Integer.MIN_VALUE}) {
            Due.fails("9: kind " + kind, ARGUMENT, () -> census.apply(kind, 1, 10, 0, 0));
        }
        Due.is("9: nothing was applied for", 0, census.total(4));
    }

    private static void promise11() {
        BuildingCensus census = Due.census(100);
        census.apply(0, 0, 0, 30, 0);
        census.apply(0, 0, 0, 30, 0);
        census.pass(2);
        Due.is("11: one open", 1, census.grant(0));
        Due.is("11: two open", 2, census.grant(1));
        Due.is("11: stage", 1, census.permit(0, 5));
        Due.is("11: day", 2, census.permit(0, 6));
        Due.fails("11: granted twice", STAGE, () -> census.grant(0));
        Due.fails("11: permit 2", INDEX, () -> census.grant(2));
        Due.fails("11: permit -1", INDEX, () -> census.grant(-1));
        census.begin(0);
        Due.fails("11: begun", STAGE, () -> census.grant(0));
        census.finish(0);
        Due.fails("11: finished", STAGE, () -> census.grant(0));
        census.apply(0, 0, 0, 1, 0);
        Due.is("11: a finished one is not open", 2, census.grant(2));
    }

    private static void promise11NotThere() {
        BuildingCensus census = Due.census(100, 100);
        refused("11: no building", 1, census, 0, 2, 0, 1, 0);
        refused("11: no floor", 1, census, 0, 0, 1, 1, 0);
        refused("11: no building for a floor", 1, census, 5, 2, 10, 0, 0);
        refused("11: no unit to split", 1, census, 1, 0, 1, 0, 0);
        refused("11: no unit to change", 1, census, 3, 999, 1, 0, 0);
        refused("11: no unit to end", 1, census, 4, 0, 0, 0, 0);
        Due.carry(census, 0, 0, 0, 10, 0);
        Due.carry(census, 0, 1, 0, 10, 0);
        Due.carry(census, 5, 0, 100, 0, 0);
        Due.carry(census, 0, 0, 1, 10, 0);
        refused("11: the same unit twice", 1, census, 2, 0, 0, 0, 0);
        refused("11: floors of two buildings", 1, census, 2, 0, 1, 0, 0);
        refused("11: two floors of a building", 1, census, 2, 0, 2, 0, 0);
        refused("11: the second is not there", 1, census, 2, 0, 3, 0, 0);
        Due.carry(census, 4, 0, 0, 0, 0);
        refused("11: an ended unit", 1, census, 4, 0, 0, 0, 0);
        refused("11: 1 goes before 4", 1, census, 1, 0, 999, 0, 0);
    }

    private static void promise11Taken() {
        BuildingCensus census = Due.census(100);
        for (int i = 0; i < 6; i++) {
            Due.carry(census, 0, 0, 0, 10, 0);
        }
        Due.open(census, 1, 0, 5, 0, 0);
        Due.open(census, 2, 1, 2, 0, 0);
        Due.open(census, 3, 3, 5, 0, 1);
        census.begin(Due.open(census, 4, 4, 0, 0, 0));
        for (int unit = 0; unit < 5; unit++) {
            refused("11: taken by an open permit", 2, census, 4, unit, 0, 0, 0);
            refused("11: the second is taken", 2, census, 2, 5, unit, 0, 0);
        }
        refused("11: 2 goes before 4", 2, census, 1, 0, 999, 0, 0);
        int building = Due.open(census, 0, 0, 0, 1, 0);
        Due.is("11: a permit for a new unit tells no unit", 0, census.permit(building, 7));
        Due.is("11: it is granted", 1, census.permit(building, 5));
        Due.is("11: unit 0 is told, building 0 not", 0, census.permit(census.apply(5, 0, 10, 0, 0), 7));
        Due.is("11: unit 5 is free", 0, census.permit(census.apply(4, 5, 0, 0, 0), 7));
        census.withdraw(6);
        Due.is("11: free after a withdrawal", 0, census.permit(census.apply(4, 0, 0, 0, 0), 7));
    }

    private static void promise11Room() {
        BuildingCensus census = Due.census(100, 50);
        Due.carry(census, 0, 0, 0, 40, 0);
        int open = Due.open(census, 0, 0, 0, 30, 0);
        refused("11: no room", 3, census, 0, 0, 0, 31, 0);
        Due.is("11: just room", 0, census.permit(census.apply(0, 0, 0, 30, 0), 7));
        Due.is("11: room on another floor", 0, census.permit(census.apply(0, 1, 0, 50, 0), 7));
        census.withdraw(open);
        Due.is("11: room again", 0, census.permit(census.apply(0, 0, 0, 60, 0), 7));
        refused("11: still not for 61", 3, census, 0, 0, 0, 61, 0);
    }

    private static void promise11Areas() {
        BuildingCensus census = Due.census(100);
        int unit = Due.carry(census, 0, 0, 0, 40, 0);
        refused("11: the whole cannot be split off", 4, census, 1, unit, 40, 0, 0);
        refused("11: nor more", 4, census, 1, unit, 41, 0, 0);
        Due.is("11: all but 1", 0, census.permit(census.apply(1, unit, 39, 0, 0), 7));
        refused("11: more than the area of the use", 4, census, 3, unit, 41, 0, 1);
        refused("11: nothing of the use", 4, census, 3, unit, 1, 1, 0);
        refused("11: also for the same use", 4, census, 3, unit, 41, 0, 0);
        Due.is("11: all of the use", 0, census.permit(census.apply(3, unit, 40, 0, 1), 7));
    }

    /** A census with a unit and 28 splits: 57 units, 29 permits. */
    private static BuildingCensus manyUnits() {
        BuildingCensus census = Due.census(999);
        Due.carry(census, 0, 0, 0, 900, 0);
        for (int i = 0; i < 28; i++) {
            Due.carry(census, 1, 2 * i, 5, 0, 0);
        }
        return census;
    }

    private static void promise11TooManyUnits() {
        BuildingCensus census = manyUnits();
        Due.is("11: units", 57, census.total(2));
        Due.open(census, 3, 56, 1, 0, 1);
        Due.is("11: two more by a split make 60", 0, census.permit(census.apply(1, 55, 1, 0, 0), 7));
        Due.open(census, 0, 0, 0, 1, 0);
        refused("11: a split makes 61", 5, census, 1, 55, 1, 0, 0);
        Due.is("11: a change makes 60", 0, census.permit(census.apply(3, 55, 1, 0, 1), 7));
        Due.open(census, 4, 53, 0, 0, 0);
        Due.open(census, 2, 51, 49, 0, 0);
        refused("11: a change makes 61", 5, census, 3, 55, 1, 0, 1);
        refused("11: a join makes 61", 5, census, 2, 55, 47, 0, 0);
        refused("11: a new unit makes 61", 5, census, 0, 0, 0, 1, 0);
        Due.is("11: an end brings no unit", 0, census.permit(census.apply(4, 55, 0, 0, 0), 7));
    }

    private static void promise11TooManyFloors() {
        BuildingCensus census = Due.census(50, 50);
        Due.carry(census, 5, 0, 10, 0, 0);
        for (int i = 0; i < 3; i++) {
            Due.open(census, 5, 0, 10, 0, 0);
        }
        Due.open(census, 5, 1, 10, 0, 0);
        Due.is("11: the sixth floor", 5, Due.open(census, 5, 0, 10, 0, 0));
        refused("11: the seventh floor", 5, census, 5, 0, 10, 0, 0);
        Due.is("11: a floor of the other building", 0, census.permit(census.apply(5, 1, 10, 0, 0), 7));
        for (int permit : new int[] {1, 2, 3, 5}) {
            census.begin(permit);
        }
        Due.is("11: finished", 2, census.finish(1));
        Due.is("11: finished", 3, census.finish(5));
        refused("11: still the seventh floor", 5, census, 5, 0, 10, 0, 0);
        census.withdraw(2);
        Due.is("11: withdrawn, there is place", 0, census.permit(census.apply(5, 0, 10, 0, 0), 7));
    }

    private static void promise12() {
        BuildingCensus census = Due.census(100);
        census.apply(0, 0, 0, 100, 0);
        census.apply(0, 0, 0, 101, 0);
        census.apply(1, 0, 1, 0, 0);
        census.pass(4);
        Due.is("12: it could be granted", 0, census.refuse(0));
        Due.is("12: no room", 3, census.refuse(1));
        Due.is("12: no unit", 1, census.refuse(2));
        Due.is("12: stage", 4, census.permit(1, 5));
        Due.is("12: day", 4, census.permit(1, 6));
        Due.fails("12: no reason is kept", ELEMENT, census::reason);
        Due.fails("12: refused twice", STAGE, () -> census.refuse(0));
        Due.fails("12: permit 3", INDEX, () -> census.refuse(3));
        Due.fails("12: permit -1", INDEX, () -> census.refuse(-1));
        int open = Due.open(census, 0, 0, 0, 1, 0);
        Due.fails("12: granted", STAGE, () -> census.refuse(open));
    }

    private static void promise13() {
        BuildingCensus census = Due.census(100);
        census.pass(7);
        int permit = Due.open(census, 0, 0, 0, 1, 0);
        int same = Due.open(census, 0, 0, 0, 1, 0);
        Due.is("13: on the same day", 0, census.begin(same));
        census.pass(30);
        Due.is("13: 30 days later", 30, census.begin(permit));
        Due.is("13: stage", 2, census.permit(permit, 5));
        Due.is("13: day", 37, census.permit(permit, 6));
        Due.fails("13: begun twice", STAGE, () -> census.begin(permit));
        Due.fails("13: permit 2", INDEX, () -> census.begin(2));
        Due.fails("13: permit -1", INDEX, () -> census.begin(-1));
        int applied = census.apply(0, 0, 0, 1, 0);
        Due.fails("13: applied", STAGE, () -> census.begin(applied));
    }

    private static void promise14() {
        BuildingCensus census = Due.census(100);
        Due.is("14: a unit", 0, Due.carry(census, 0, 0, 0, 40, 1));
        Due.is("14: two units", 1, Due.carry(census, 1, 0, 10, 0, 0));
        Due.is("14: a joined unit", 3, Due.carry(census, 2, 2, 1, 0, 0));
        Due.is("14: a changed unit", 4, Due.carry(census, 3, 3, 4, 1, 2));
        Due.is("14: an ended unit", -1, Due.carry(census, 4, 4, 0, 0, 0));
        Due.is("14: a floor", 1, Due.carry(census, 5, 0, 33, 0, 0));
        Due.is("14: the next floor", 2, Due.carry(census, 5, 0, 44, 0, 0));
        Due.is("14: its area", 44, census.floor(0, 2, 0));
        Due.is("14: all units ended", 0, census.total(3));
        Due.is("14: units", 5, census.total(2));
        Due.is("14: stage", 3, census.permit(6, 5));
        Due.fails("14: finished twice", STAGE, () -> census.finish(6));
        int open = Due.open(census, 0, 0, 0, 1, 0);
        Due.fails("14: not begun", STAGE, () -> census.finish(open));
        census.begin(open);
        census.pass(99);
        Due.is("14: begun permits do not lapse", 5, census.finish(open));
        Due.is("14: day", 99, census.permit(open, 6));
        Due.is("14: came", 99, census.unit(5, 3));
        Due.fails("14: permit 8", INDEX, () -> census.finish(8));
        Due.fails("14: permit -1", INDEX, () -> census.finish(-1));
    }

    private static void promise15() {
        BuildingCensus census = Due.census(100);
        census.apply(0, 0, 0, 1, 0);
        Due.open(census, 0, 0, 0, 1, 0);
        census.begin(Due.open(census, 0, 0, 0, 1, 0));
        Due.carry(census, 0, 0, 0, 1, 0);
        census.refuse(census.apply(0, 0, 0, 1, 0));
        Due.open(census, 0, 0, 0, 1, 0);
        census.pass(2);
        for (int stage = 0; stage < 3; stage++) {
            Due.is("15: the stage that it had", stage, census.withdraw(stage));
            Due.is("15: stage", 6, census.permit(stage, 5));
            Due.is("15: day", 2, census.permit(stage, 6));
        }
        Due.fails("15: finished", STAGE, () -> census.withdraw(3));
        Due.fails("15: refused", STAGE, () -> census.withdraw(4));
        Due.fails("15: withdrawn", STAGE, () -> census.withdraw(0));
        census.pass(29);
        Due.fails("15: lapsed", STAGE, () -> census.withdraw(5));
        Due.fails("15: permit 6", INDEX, () -> census.withdraw(6));
        Due.fails("15: permit -1", INDEX, () -> census.withdraw(-1));
    }

    private static void promise16() {
        BuildingCensus census = Due.census(100);
        census.pass(1);
        census.apply(3, 12, 34, 2, 4);
        int[] want = {3, 12, 34, 2, 4, 0, 1, 1};
        for (int what = 0; what < want.length; what++) {
            Due.is("16: what " + what, want[what], census.permit(0, what));
        }
        Due.fails("16: permit keeps no reason", ELEMENT, census::reason);
        census.pass(1);
        census.refuse(0);
        Due.is("16: refused", 4, census.permit(0, 5));
        Due.is("16: on day 2", 2, census.permit(0, 6));
        Due.is("16: no reason if it is not applied", 0, census.permit(0, 7));
        Due.fails("16: what 8", ARGUMENT, () -> census.permit(0, 8));
        Due.fails("16: what -1", ARGUMENT, () -> census.permit(0, -1));
        Due.fails("16: permit 1 goes first", INDEX, () -> census.permit(1, 8));
        Due.fails("16: permit -1", INDEX, () -> census.permit(-1, 0));
    }

    private static void promise17() {
        BuildingCensus census = Due.census(100);
        Due.fails("17: none so far", ELEMENT, census::reason);
        refused("17: the first", 1, census, 4, 0, 0, 0, 0);
        refused("17: the second", 3, census, 0, 0, 0, 101, 0);
        Due.open(census, 0, 0, 0, 1, 0);
        Due.is("17: a grant keeps it", 3, census.reason());
        Due.fails("17: a wrong stage is no reason", STAGE, () -> census.grant(2));
        census.undo();
        Due.is("17: it does not go back", 3, census.reason());
        census.save();
        census.restore();
        Due.is("17: nor by a restore", 3, census.reason());
    }

    private static void promise18() {
        BuildingCensus census = Due.census(100);
        Due.fails("18: 0 days", ARGUMENT, () -> census.pass(0));
        Due.fails("18: -1 days", ARGUMENT, () -> census.pass(-1));
        Due.fails("18: 100 days", ARGUMENT, () -> census.pass(100));
        Due.fails("18: the most days", ARGUMENT, () -> census.pass(Integer.MAX_VALUE));
        census.apply(0, 0, 0, 1, 0);
        int first = Due.open(census, 0, 0, 0, 1, 0);
        int begun = Due.open(census, 0, 0, 0, 1, 0);
        census.begin(begun);
        Due.is("18: nothing lapses", 0, census.pass(10));
        int second = Due.open(census, 0, 0, 0, 1, 0);
        Due.is("18: nothing lapses on day 30", 0, census.pass(20));
        Due.is("18: one lapses on day 31", 1, census.pass(1));
        Due.is("18: stage", 5, census.permit(first, 5));
        Due.is("18: one lapses on the way", 1, census.pass(99));
        Due.is("18: on day 41", 41, census.permit(second, 6));
        Due.is("18: the begun one stays", 2, census.permit(begun, 5));
        Due.is("18: the applied one stays", 0, census.permit(0, 5));
        for (int i = 0; i < 99; i++) {
            census.pass(99);
        }
        Due.is("18: present day", 9931, census.total(0));
        Due.fails("18: day 10000", STATE, () -> census.pass(69));
        Due.fails("18: a wrong number goes first", ARGUMENT, () -> census.pass(100));
        Due.is("18: day 9999", 0, census.pass(68));
        Due.is("18: present day", 9999, census.total(0));
        Due.fails("18: day 10000", STATE, () -> census.pass(1));
    }
}
