/** Promises 19 to 23: count, replayed, meanArea, fullestDay, check. */
public final class CountsTest {
    private static final Class<IllegalArgumentException> ARGUMENT = IllegalArgumentException.class;
    private static final Class<IndexOutOfBoundsException> INDEX = IndexOutOfBoundsException.class;
    private static final Class<ArithmeticException> ARITHMETIC = ArithmeticException.class;

    public static void main(String[] args) {
        promises19And20();
        promises19And20Wrong();
        promise20();
        promise21();
        promise22();
        promise23();
        Due.end();
    }

    /** Day 0: units 0 and 1; day 3: 0 is split into 2 and 3; day 5: 1 ends, 4 comes and ends; day 7: nothing. */
    private static BuildingCensus story() {
        BuildingCensus census = Due.census(100, 200);
        Due.carry(census, 0, 0, 0, 30, 0);
        Due.carry(census, 0, 1, 0, 50, 1);
        census.pass(3);
        Due.carry(census, 1, 0, 10, 0, 0);
        census.pass(2);
        Due.carry(census, 4, 1, 0, 0, 0);
        Due.carry(census, 0, 1, 0, 5, 4);
        Due.carry(census, 4, 4, 0, 0, 0);
        Due.carry(census, 3, 3, 7, 0, 1);
        census.pass(2);
        return census;
    }

    private static void both(BuildingCensus census, long want, int day, int building, int use, boolean isArea) {
        String call = "(" + day + ", " + building + ", " + use + ", " + isArea + ")";
        Due.is("19: count" + call, want, census.count(day, building, use, isArea));
        Due.is("20: replayed" + call, want, census.replayed(day, building, use, isArea));
    }

    private static void promises19And20() {
        BuildingCensus census = story();
        both(census, 2, 0, -1, -1, false);
        both(census, 80, 0, -1, -1, true);
        both(census, 80, 2, -1, -1, true);
        both(census, 3, 3, -1, -1, false);
        both(census, 2, 3, 0, -1, false);
        both(census, 30, 4, 0, -1, true);
        both(census, 1, 4, 1, -1, false);
        both(census, 2, 5, -1, -1, false);
        both(census, 0, 5, 1, -1, false);
        both(census, 0, 5, 1, -1, true);
        both(census, 0, 5, -1, 4, false);
        both(census, 2, 7, 0, 0, false);
        both(census, 23, 7, 0, 0, true);
        both(census, 1, 7, -1, 1, false);
        both(census, 7, 7, -1, 1, true);
        both(census, 0, 7, -1, 2, true);
        both(census, 1, 0, -1, 1, false);
        both(census, 50, 0, -1, 1, true);
    }

    private static void promises19And20Wrong() {
        BuildingCensus census = story();
        int[][] indices = {{0, -2, -1}, {0, 2, -1}, {0, -1, -2}, {0, -1, 5}, {-1, 2, 0}, {8, 0, 5}};
        for (int[] wrong : indices) {
            Due.fails("19: index", INDEX, () -> census.count(wrong[0], wrong[1], wrong[2], true));
            Due.fails("20: index", INDEX, () -> census.replayed(wrong[0], wrong[1], wrong[2], true));
        }
        for (int day : new int[] {-1, 8, Integer.MAX_VALUE, Integer.MIN_VALUE}) {
            Due.fails("19: day " + day, ARGUMENT, () -> census.count(day, -1, -1, false));
            Due.fails("20: day " + day, ARGUMENT, () -> census.replayed(day, -1, -1, false));
        }
    }

    /** The order of the permits' numbers is not the order in which they were finished. */
    private static void promise20() {
        BuildingCensus census = Due.census(100);
        census.apply(1, 0, 10, 0, 0);
        census.apply(0, 0, 1, 8, 2);
        census.apply(5, 0, 50, 0, 0);
        Due.carry(census, 0, 0, 0, 30, 0);
        for (int permit : new int[] {2, 1, 0}) {
            census.pass(1);
            census.grant(permit);
            census.begin(permit);
            census.finish(permit);
        }
        for (int day = 0; day <= 3; day++) {
            both(census, day < 2 ? 30 : 38, day, 0, -1, true);
            both(census, day < 2 ? 1 : day, day, 0, -1, false);
            both(census, day < 2 ? 0 : 8, day, -1, 2, true);
        }
        Due.is("20: floors are as before", 2, census.building(0, 0));
        census.undo();
        census.undo();
        both(census, 2, 3, -1, -1, false);
        Due.is("20: the units are as before", 2, census.total(2));
    }

    private static void promise21() {
        BuildingCensus census = Due.census(100);
        Due.fails("21: no units", ARITHMETIC, () -> census.meanArea(0));
        Due.carry(census, 0, 0, 0, 10, 0);
        Due.carry(census, 0, 0, 0, 11, 1);
        Due.carry(census, 0, 0, 0, 11, 1);
        Due.isDouble("21: mean", 32.0 / 3.0, census.meanArea(0));
        census.pass(1);
        Due.carry(census, 4, 0, 0, 0, 0);
        Due.isDouble("21: the day before", 32.0 / 3.0, census.meanArea(0));
        Due.isDouble("21: today", 11.0, census.meanArea(1));
        Due.carry(census, 4, 1, 0, 0, 0);
        Due.carry(census, 4, 2, 0, 0, 0);
        Due.fails("21: all ended", ARITHMETIC, () -> census.meanArea(1));
        Due.fails("21: day 2", ARGUMENT, () -> census.meanArea(2));
        Due.fails("21: day -1", ARGUMENT, () -> census.meanArea(-1));
    }

    private static void promise22() {
        BuildingCensus census = Due.census(100);
        census.pass(4);
        Due.is("22: no units", 0, census.fullestDay());
        Due.carry(census, 0, 0, 0, 10, 0);
        Due.is("22: one unit", 4, census.fullestDay());
        Due.carry(census, 4, 0, 0, 0, 0);
        Due.is("22: it is there at no day", 0, census.fullestDay());
        Due.carry(census, 0, 0, 0, 10, 0);
        census.pass(2);
        Due.carry(census, 0, 0, 0, 10, 0);
        Due.carry(census, 4, 1, 0, 0, 0);
        Due.is("22: the first of several", 4, census.fullestDay());
        census.pass(2);
        Due.carry(census, 0, 0, 0, 10, 0);
        census.pass(1);
        Due.carry(census, 4, 2, 0, 0, 0);
        Due.is("22: two on day 8", 8, census.fullestDay());
        census.undo();
        Due.is("22: still two on day 8", 8, census.fullestDay());
        promise22NumberNotArea();
    }

    private static void promise22NumberNotArea() {
        BuildingCensus census = Due.census(100);
        Due.carry(census, 0, 0, 0, 5, 0);
        census.pass(1);
        Due.carry(census, 0, 0, 0, 1, 0);
        census.pass(1);
        Due.carry(census, 4, 0, 0, 0, 0);
        Due.carry(census, 4, 1, 0, 0, 0);
        Due.carry(census, 0, 0, 0, 90, 0);
        Due.is("22: the number counts, not the area", 1, census.fullestDay());
    }

    private static int check(BuildingCensus census, String text, int day) {
        Due.type(census, text);
        int answer = census.check(day);
        Due.is("23: the input is empty after " + text, 0, census.total(8));
        return answer;
    }

    private static void promise23() {
        BuildingCensus census = story();
        Due.is("23: all right", -1, check(census, "0:1,30;1:1,050", 0));
        Due.is("23: right at day 3", -1, check(census, "0:2,30;0:02,030;1:001,50", 3));
        Due.is("23: wrong number", 0, check(census, "0:2,30;1:1,50", 0));
        Due.is("23: wrong area", 1, check(census, "0:1,30;1:1,51;1:1,52", 0));
        Due.is("23: no such building", 2, check(census, "0:1,30;1:1,50;2:0,0", 0));
        Due.is("23: building 9", 0, check(census, "9:0,0", 0));
        Due.is("23: today", -1, check(census, "0:2,30;1:0,0", 7));
        wrong(census, "0:1,30;", 0, 7);
        wrong(census, "", 0, 0);
        wrong(census, "0:1,1234", 0, 7);
        wrong(census, "00:1,1", 0, 1);
        wrong(census, "0:,1", 0, 2);
        wrong(census, "0:1234,1", 0, 5);
        wrong(census, "0:1;1", 0, 3);
        wrong(census, "e0", 0, 0);
        for (int day : new int[] {-1, 8, Integer.MAX_VALUE}) {
            Due.type(census, "0:x");
            Due.fails("23: day " + day, ARGUMENT, () -> census.check(day));
            Due.is("23: the text is not read", 0, census.errorPosition());
            Due.is("23: the input is empty", 0, census.total(8));
        }
        Due.is("23: no change", 8, census.total(7));
    }

    private static void wrong(BuildingCensus census, String text, int day, int position) {
        Due.type(census, text);
        Due.fails("23: " + text, ARGUMENT, () -> census.check(day));
        Due.is("23: error position of " + text, position, census.errorPosition());
        Due.is("23: the input is empty after " + text, 0, census.total(8));
    }
}
