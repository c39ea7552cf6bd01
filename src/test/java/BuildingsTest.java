/** Promises 1 to 4: a new object, addBuilding, building, floor. */
public final class BuildingsTest {
    private static final Class<IllegalArgumentException> ARGUMENT = IllegalArgumentException.class;
    private static final Class<IndexOutOfBoundsException> INDEX = IndexOutOfBoundsException.class;
    private static final Class<IllegalStateException> STATE = IllegalStateException.class;

    public static void main(String[] args) {
        promise1();
        promise2();
        promise3();
        promise4();
        Due.end();
    }

    private static void promise1() {
        BuildingCensus census = new BuildingCensus();
        for (int what = 0; what <= 8; what++) {
            Due.is("1: total(" + what + ") of a new census", 0, census.total(what));
        }
        Due.fails("1: no building", INDEX, () -> census.building(0, 0));
        Due.fails("1: no floor", INDEX, () -> census.floor(0, 0, 0));
        Due.fails("1: no unit", INDEX, () -> census.unit(0, 0));
        Due.fails("1: no permit", INDEX, () -> census.permit(0, 0));
        Due.fails("1: no undo", STATE, census::undo);
        Due.fails("1: no restore", STATE, census::restore);
        Due.is("1: fullestDay", 0, census.fullestDay());
        Due.is("1: count", 0, census.count(0, -1, -1, false));
        Due.is("1: replayed", 0, census.replayed(0, -1, -1, true));
    }

    private static void promise2() {
        BuildingCensus census = new BuildingCensus();
        Due.fails("2: area 9", ARGUMENT, () -> census.addBuilding(9));
        Due.fails("2: area 1000", ARGUMENT, () -> census.addBuilding(1000));
        Due.fails("2: least area", ARGUMENT, () -> census.addBuilding(Integer.MIN_VALUE));
        Due.is("2: area 10", 0, census.addBuilding(10));
        Due.is("2: area 999", 1, census.addBuilding(999));
        Due.is("2: the third", 2, census.addBuilding(100));
        Due.is("2: the fourth", 3, census.addBuilding(100));
        Due.fails("2: the fifth", STATE, () -> census.addBuilding(100));
        Due.fails("2: a wrong area goes first", ARGUMENT, () -> census.addBuilding(1000));
        Due.is("2: one floor each", 1, census.building(3, 0));
        Due.is("2: buildings", 4, census.total(1));
        Due.is("2: changes", 4, census.total(7));
    }

    private static void promise3() {
        BuildingCensus census = Due.census(100, 50);
        Due.carry(census, 5, 1, 60, 0, 0);
        Due.carry(census, 0, 1, 0, 20, 0);
        Due.carry(census, 0, 1, 1, 30, 0);
        int ended = Due.carry(census, 0, 1, 1, 7, 0);
        Due.carry(census, 4, ended, 0, 0, 0);
        Due.is("3: floors", 2, census.building(1, 0));
        Due.is("3: floor areas", 110, census.building(1, 1));
        Due.is("3: units", 2, census.building(1, 2));
        Due.is("3: unit areas", 50, census.building(1, 3));
        Due.is("3: floors of the other", 1, census.building(0, 0));
        Due.is("3: floor areas of the other", 100, census.building(0, 1));
        Due.is("3: units of the other", 0, census.building(0, 2));
        Due.is("3: unit areas of the other", 0, census.building(0, 3));
        Due.fails("3: building -1", INDEX, () -> census.building(-1, 0));
        Due.fails("3: building 2", INDEX, () -> census.building(2, 0));
        Due.fails("3: building goes first", INDEX, () -> census.building(2, 9));
        Due.fails("3: what 4", ARGUMENT, () -> census.building(0, 4));
        Due.fails("3: what -1", ARGUMENT, () -> census.building(0, -1));
    }

    private static void promise4() {
        BuildingCensus census = Due.census(100, 50);
        Due.carry(census, 5, 1, 60, 0, 0);
        Due.carry(census, 0, 1, 1, 20, 0);
        Due.open(census, 0, 1, 1, 11, 2);
        int begun = Due.open(census, 0, 1, 1, 9, 2);
        census.begin(begun);
        census.apply(0, 1, 1, 5, 0);
        Due.open(census, 0, 1, 0, 4, 0);
        Due.is("4: area", 60, census.floor(1, 1, 0));
        Due.is("4: room", 40, census.floor(1, 1, 1));
        Due.is("4: units", 1, census.floor(1, 1, 2));
        Due.is("4: room without the open permits", 20, census.floor(1, 1, 3));
        Due.is("4: the floor below", 46, census.floor(1, 0, 3));
        Due.is("4: the other building", 100, census.floor(0, 0, 3));
        census.withdraw(begun);
        Due.is("4: withdrawn", 29, census.floor(1, 1, 3));
        Due.carry(census, 4, 0, 0, 0, 0);
        Due.is("4: room after the unit ended", 60, census.floor(1, 1, 1));
        Due.is("4: units after the unit ended", 0, census.floor(1, 1, 2));
        Due.fails("4: floor 2", INDEX, () -> census.floor(1, 2, 0));
        Due.fails("4: floor -1", INDEX, () -> census.floor(1, -1, 0));
        Due.fails("4: building 2", INDEX, () -> census.floor(2, 0, 0));
        Due.fails("4: building -1", INDEX, () -> census.floor(-1, 0, 0));
        Due.fails("4: floor goes first", INDEX, () -> census.floor(0, 1, 4));
        Due.fails("4: what 4", ARGUMENT, () -> census.floor(0, 0, 4));
        Due.fails("4: what -1", ARGUMENT, () -> census.floor(0, 0, -1));
    }
}
