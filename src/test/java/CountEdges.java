import java.util.function.Supplier;

/** Sentences on counts: promises 19 to 23. */
final class CountEdges {
    private CountEdges() {
    }

    static void all() {
        counts();
        sameDay();
        promise19();
        promise20();
        promise19And20Wrong();
        promise21();
        promise22();
        promise22AtTheEnds();
        promise23();
        promise23Wrong();
    }

    private static void both(BuildingCensus census, String arguments, Object want) {
        Edges.run(census, "count(" + arguments + ")", want, "replayed(" + arguments + ")", want);
    }

    /** The unit 0 comes on day 5 and ends on day 9; the present day is 12. */
    private static BuildingCensus cameAndEnded() {
        BuildingCensus census = Due.census(100, 100);
        census.pass(5);
        Due.carry(census, 0, 1, 0, 30, 2);
        census.pass(4);
        Due.carry(census, 4, 0, 0, 0, 0);
        census.pass(3);
        return census;
    }

    private static void counts() {
        Edges.sentence(0, "Counts. A unit is there at a day if it came on this day or earlier, and did not end on this day or "
                + "earlier.");
        BuildingCensus census = cameAndEnded();
        for (int day = 0; day <= 12; day++) {
            boolean isThere = day >= 5 && day < 9;
            both(census, day + ", -1, -1, false", isThere ? 1 : 0);
            both(census, day + ", -1, -1, true", isThere ? 30 : 0);
        }
        both(census, "13, -1, -1, false", Edges.ARGUMENT);
        census = Stands.oneBuilding();
        Due.carry(census, 0, 0, 0, 30, 0);
        both(census, "0, -1, -1, false", 1);
        Due.carry(census, 4, 0, 0, 0, 0);
        both(census, "0, -1, -1, false", 0);
    }

    private static void sameDay() {
        Edges.sentence(0, "A unit that came and ended on the same day is there at no day.");
        BuildingCensus census = Stands.oneBuilding();
        census.pass(3);
        Due.carry(census, 0, 0, 0, 30, 0);
        Due.carry(census, 1, 0, 10, 0, 0);
        Due.carry(census, 2, 1, 2, 0, 0);
        Due.carry(census, 4, 3, 0, 0, 0);
        census.pass(2);
        Edges.run(census, "total(2)", 4, "fullestDay()", 0);
        for (int day = 0; day <= 5; day++) {
            both(census, day + ", -1, -1, false", 0);
            both(census, day + ", -1, -1, true", 0);
            Edges.run(census, "meanArea(" + day + ")", Edges.ARITHMETIC);
        }
    }

    /** The permits are finished in another order than that of their numbers: 3 on day 0, 0 on 1, 2 on 2, 1 on 3. */
    private static BuildingCensus otherOrder() {
        BuildingCensus census = Due.census(100);
        census.apply(1, 0, 10, 0, 0);
        census.apply(0, 0, 1, 5, 1);
        census.apply(5, 0, 50, 0, 0);
        Due.carry(census, 0, 0, 0, 30, 0);
        for (int permit : new int[] {0, 2, 1}) {
            census.pass(1);
            census.grant(permit);
            census.begin(permit);
            census.finish(permit);
        }
        census.pass(1);
        return census;
    }

    private static void promise19() {
        Edges.sentence(19, "Returns how many units are there at a day, or their area.");
        Edges.leaves(Stands::rich, "count(33, -1, -1, false)", 2);
        Edges.leaves(Stands::rich, "count(33, -1, -1, true)", 47);
        Edges.sentence(19, "`day`: the day, 0 to the present one");
        Edges.answers(Stands::rich, "count(0, -1, -1, true)", 30);
        Edges.answers(Stands::rich, "count(1, -1, -1, true)", 30);
        Edges.answers(Stands::rich, "count(2, -1, -1, true)", 40);
        Edges.answers(Stands::rich, "count(32, -1, -1, true)", 40);
        Edges.answers(Stands::rich, "count(33, -1, -1, true)", 47);
        Edges.answers(Stands::lastDay, "count(9999, -1, -1, true)", 30);
        Edges.sentence(19, "`building`: the building, or -1 for all");
        Edges.answers(Stands::rich, "count(33, 0, -1, true)", 40);
        Edges.answers(Stands::rich, "count(33, 1, -1, true)", 7);
        Edges.answers(Stands::rich, "count(33, -1, -1, true)", 47);
        Edges.answers(Stands::fourBuildings, "count(0, 3, -1, true)", 0);
        Edges.sentence(19, "`use`: the use, of which a unit has to have some area, or of which the area is asked for; or -1 for "
                + "all");
        int[] areas = {15, 20, 0, 5, 7};
        for (int use = 0; use < 5; use++) {
            Edges.answers(Stands::rich, "count(33, -1, " + use + ", true)", areas[use]);
            Edges.answers(Stands::rich, "count(33, -1, " + use + ", false)", areas[use] > 0 ? 1 : 0);
        }
        BuildingCensus one = Stands.oneBuilding();
        Due.carry(one, 0, 0, 0, 10, 0);
        Due.carry(one, 3, 0, 1, 0, 4);
        both(one, "0, -1, 4, false", 1);
        both(one, "0, -1, 4, true", 1);
        Due.carry(one, 3, 1, 1, 4, 0);
        both(one, "0, -1, 4, false", 0);
        both(one, "0, -1, 4, true", 0);
        Edges.sentence(19, "`isArea`: true for the area, false for the number of units");
        Edges.answers(Stands::sixtyUnits, "count(0, -1, -1, false)", 31);
        Edges.answers(Stands::sixtyUnits, "count(0, -1, -1, true)", 901);
        Edges.sentence(19, "Returns the number or the area.");
        Edges.answers(Stands::sixtyUnits, "count(0, 0, 4, false)", 1);
        Edges.answers(Stands::sixtyUnits, "count(0, 0, 4, true)", 1);
        Edges.answers(Stands::empty, "count(0, -1, -1, true)", 0);
        Edges.answers(Stands::empty, "count(0, -1, 4, false)", 0);
    }

    private static void promise20() {
        Edges.sentence(20, "Returns the same as count, by a second way: all permits that were finished on this day or earlier are "
                + "carried out once more, in the order in which they were finished, on floors without units.");
        Supplier<BuildingCensus> other = CountEdges::otherOrder;
        for (int day = 0; day <= 4; day++) {
            for (String rest : new String[] {"-1, -1, true", "-1, -1, false", "0, 0, true", "0, 1, false", "1, -1, true"}) {
                String arguments = "(" + day + ", " + rest + ")";
                Edges.leaves(other, "replayed" + arguments, Edges.ask(other.get(), "count" + arguments));
            }
        }
        Edges.answers(other, "replayed(0, -1, -1, false)", 1);
        Edges.answers(other, "replayed(1, -1, -1, false)", 2);
        Edges.answers(other, "replayed(2, -1, -1, false)", 2);
        Edges.answers(other, "replayed(3, -1, -1, true)", 35);
        Edges.sentence(20, "`day`: the day, 0 to the present one");
        Edges.answers(Stands::rich, "replayed(0, -1, -1, true)", 30);
        Edges.answers(Stands::rich, "replayed(2, -1, -1, true)", 40);
        Edges.answers(Stands::rich, "replayed(33, -1, -1, true)", 47);
        Edges.answers(Stands::lastDay, "replayed(9999, -1, -1, true)", 30);
        Edges.answers(Stands::lastDay, "replayed(0, -1, -1, true)", 30);
        Edges.sentence(20, "`building`: the building, or -1 for all");
        Edges.answers(Stands::rich, "replayed(33, 0, -1, true)", 40);
        Edges.answers(Stands::rich, "replayed(33, 1, -1, true)", 7);
        Edges.answers(Stands::fourBuildings, "replayed(0, 3, -1, true)", 0);
        Edges.sentence(20, "`use`: the use, or -1 for all");
        Edges.answers(Stands::rich, "replayed(33, -1, 0, true)", 15);
        Edges.answers(Stands::rich, "replayed(33, -1, 4, false)", 1);
        Edges.answers(Stands::rich, "replayed(33, -1, 2, false)", 0);
        Edges.sentence(20, "`isArea`: true for the area, false for the number of units");
        Edges.answers(Stands::sixtyUnits, "replayed(0, -1, -1, false)", 31);
        Edges.answers(Stands::sixtyUnits, "replayed(0, -1, -1, true)", 901);
        Edges.sentence(20, "Returns the number or the area.");
        Edges.leaves(Stands::rich, "replayed(33, -1, -1, false)", 2);
        Edges.leaves(Stands::sixFloors, "replayed(0, -1, -1, false)", 0);
        Edges.answers(Stands::empty, "replayed(0, -1, -1, true)", 0);
    }

    private static void promise19And20Wrong() {
        for (int promise = 19; promise <= 20; promise++) {
            String name = promise == 19 ? "count(" : "replayed(";
            Edges.sentence(promise, "Throws `IndexOutOfBoundsException` if there is no such building or use");
            for (int wrong : new int[] {-2, 5, Integer.MIN_VALUE, Integer.MAX_VALUE}) {
                Edges.leaves(Stands::rich, name + "0, " + wrong + ", -1, true)", Edges.INDEX);
                Edges.leaves(Stands::rich, name + "0, -1, " + wrong + ", true)", Edges.INDEX);
                Edges.answers(Stands::rich, name + "34, " + wrong + ", 0, true)", Edges.INDEX);
                Edges.answers(Stands::rich, name + "-1, 0, " + wrong + ", true)", Edges.INDEX);
            }
            Edges.answers(Stands::rich, name + "0, 2, -1, false)", Edges.INDEX);
            Edges.answers(Stands::empty, name + "0, 0, -1, false)", Edges.INDEX);
            Edges.answers(Stands::fourBuildings, name + "0, 4, -1, false)", Edges.INDEX);
            Edges.sentence(promise, "Throws `IllegalArgumentException` if the day is out of range");
            for (int day : new int[] {-1, 34, 9999, Integer.MIN_VALUE, Integer.MAX_VALUE}) {
                Edges.leaves(Stands::rich, name + day + ", -1, -1, false)", Edges.ARGUMENT);
            }
            Edges.answers(Stands::empty, name + "1, -1, -1, false)", Edges.ARGUMENT);
            Edges.answers(Stands::lastDay, name + "10000, -1, -1, false)", Edges.ARGUMENT);
        }
    }

    private static void promise21() {
        Edges.sentence(21, "Returns the mean area of the units that are there at a day: the sum of their areas divided by their "
                + "number, both converted to double.");
        Edges.leaves(Stands::rich, "meanArea(33)", 47.0 / 2.0);
        Edges.leaves(Stands::rich, "meanArea(0)", 30.0);
        Edges.answers(Stands::sixtyUnits, "meanArea(0)", 901.0 / 31.0);
        BuildingCensus census = Stands.oneBuilding();
        Due.carry(census, 0, 0, 0, 1, 0);
        Edges.run(census, "meanArea(0)", 1.0);
        Due.carry(census, 0, 0, 0, 2, 0);
        Edges.run(census, "meanArea(0)", 3.0 / 2.0);
        Due.carry(census, 0, 0, 0, 2, 0);
        Edges.run(census, "meanArea(0)", 5.0 / 3.0);
        Edges.sentence(21, "`day`: the day, 0 to the present one");
        Edges.answers(Stands::lastDay, "meanArea(0)", 30.0);
        Edges.answers(Stands::lastDay, "meanArea(9999)", 30.0);
        Edges.sentence(21, "Returns the mean.");
        Edges.answers(Stands::rich, "meanArea(2)", 40.0);
        Edges.answers(() -> Stands.units(59), "meanArea(0)", 30.0);
        Edges.sentence(21, "Throws `IllegalArgumentException` if the day is out of range");
        for (int day : new int[] {-1, 34, Integer.MIN_VALUE, Integer.MAX_VALUE}) {
            Edges.leaves(Stands::rich, "meanArea(" + day + ")", Edges.ARGUMENT);
            Edges.answers(Stands::empty, "meanArea(" + day + ")", Edges.ARGUMENT);
        }
        Edges.answers(Stands::lastDay, "meanArea(10000)", Edges.ARGUMENT);
        Edges.sentence(21, "Throws `ArithmeticException` if there are none");
        Edges.leaves(Stands::empty, "meanArea(0)", Edges.ARITHMETIC);
        for (int day : new int[] {0, 4, 9, 12}) {
            Edges.leaves(CountEdges::cameAndEnded, "meanArea(" + day + ")", Edges.ARITHMETIC);
        }
        Edges.answers(CountEdges::cameAndEnded, "meanArea(5)", 30.0);
        Edges.answers(CountEdges::cameAndEnded, "meanArea(8)", 30.0);
    }

    private static void promise22() {
        Edges.sentence(22, "Returns the day, up to the present one, at which the most units are there, of several the first one.");
        // One unit on the days 0 to 32, which is another one from day 2 on; two on day 33.
        Edges.leaves(Stands::rich, "fullestDay()", 33);
        for (int day = 0; day <= 3; day++) {
            BuildingCensus first = Stands.oneBuilding();
            for (int i = 0; i < day; i++) {
                first.pass(1);
            }
            Due.carry(first, 0, 0, 0, 1, 0);
            Edges.run(first, "fullestDay()", day, "pass(1)", 0, "fullestDay()", day);
        }
        // One unit on day 5 to 8; two on day 9 to 10; two again on day 11, of which one is another.
        BuildingCensus census = Due.census(100, 100);
        census.pass(5);
        Due.carry(census, 0, 1, 0, 30, 2);
        Edges.run(census, "fullestDay()", 5, "pass(4)", 0, "fullestDay()", 5);
        Due.carry(census, 0, 0, 0, 1, 0);
        Edges.run(census, "fullestDay()", 9, "pass(2)", 0);
        Due.carry(census, 4, 0, 0, 0, 0);
        Due.carry(census, 0, 0, 0, 99, 0);
        Edges.run(census, "fullestDay()", 9);
        Due.carry(census, 1, 2, 1, 0, 0);
        Edges.run(census, "fullestDay()", 11, "undo()", 7, "fullestDay()", 9);
    }

    private static void promise22AtTheEnds() {
        Edges.sentence(22, "Returns the day.");
        Edges.answers(Stands::lastDay, "fullestDay()", 0);
        BuildingCensus census = Stands.lastDay();
        Due.carry(census, 0, 0, 0, 1, 0);
        Edges.run(census, "fullestDay()", 9999, "count(9999, -1, -1, false)", 2);
        Edges.sentence(0, "Without units, the fullest day is 0.");
        Edges.leaves(Stands::empty, "fullestDay()", 0);
        Edges.run(new BuildingCensus(), "pass(99)", 0, "fullestDay()", 0);
        Edges.answers(Stands::sixFloors, "fullestDay()", 0);
        Edges.run(Stands.permits(2), "pass(3)", 0, "grant(0)", 1, "begin(0)", 0, "fullestDay()", 0, "finish(0)", 0,
                "fullestDay()", 3, "undo()", 6, "fullestDay()", 0);
    }

    private static BuildingCensus with(String text) {
        return Stands.richWith(text);
    }

    /** A right text, or one that is wrong in its count, empties the input and changes nothing else. */
    private static void checked(String text, int day, int want) {
        Edges.leaves(() -> with(text), "check(" + day + ")", want, Stands::richWithoutInput);
    }

    private static void promise23() {
        Edges.sentence(23, "Reads the input as told counts and checks them for a day: the number of units that are there in the "
                + "building, and their area. The input is empty afterwards, also if an exception is thrown.");
        checked("0:1,40;1:1,7", 33, -1);
        checked("1:001,007;0:01,040", 33, -1);
        checked("0:1,40;1:0,0", 32, -1);
        checked("0:1,30;1:0,0", 1, -1);
        // Ten are the most that find place, and 60 characters the longest text.
        checked("1:0,0;".repeat(9) + "1:0,0", 0, -1);
        checked("1:0,0;".repeat(9) + "1:0,1", 0, 9);
        checked("1:0,0;".repeat(8) + "0:1,30;1:0,0", 0, -1);
        checked("1:0,0;".repeat(8) + "0:1,30;2:0,0", 0, 9);
        Edges.sentence(23, "`day`: the day, 0 to the present one");
        checked("0:1,30", 0, -1);
        checked("0:1,40", 33, -1);
        Edges.sentence(23, "Returns the number, from 0, of the first told count that is wrong, also because there is no such "
                + "building; -1 if there is none.");
        checked("0:0,40;1:0,7", 33, 0);
        checked("0:2,40", 33, 0);
        checked("0:1,39", 33, 0);
        checked("0:1,41", 33, 0);
        checked("0:1,40;1:1,6;1:1,7", 33, 1);
        checked("0:1,40;1:1,7;2:0,0", 33, 2);
        checked("9:0,0", 33, 0);
        checked("3:000,000", 33, 0);
        checked("0:1,40;0:1,40;0:999,999", 33, 2);
        Edges.answers(() -> Stands.typed("0:0,0"), "check(0)", 0);
        Edges.run(Stands.fourBuildings(), "feed(3)", 1, "feed(:)", 2, "feed(0)", 3, "feed(,)", 4, "feed(0)", 5, "check(0)", -1);
        Edges.run(Stands.fourBuildings(), "feed(4)", 1, "feed(:)", 2, "feed(0)", 3, "feed(,)", 4, "feed(0)", 5, "check(0)", 0);
    }

    private static void promise23Wrong() {
        Edges.sentence(23, "Throws `IllegalArgumentException` if the day is out of range, or the text has an error");
        for (int day : new int[] {-1, 34, Integer.MIN_VALUE, Integer.MAX_VALUE}) {
            Edges.leaves(() -> with("0:1,40"), "check(" + day + ")", Edges.ARGUMENT, Stands::richWithoutInput);
            Edges.leaves(() -> with("0:1,4x"), "check(" + day + ")", Edges.ARGUMENT, Stands::richWithoutInput);
        }
        Edges.leaves(() -> with("0:1,40;"), "check(33)", Edges.ARGUMENT, Stands::richWithoutInput, "errorPosition()", "7");
        Edges.leaves(() -> with("0:1,4x"), "check(0)", Edges.ARGUMENT, Stands::richWithoutInput, "errorPosition()", "5");
        Edges.leaves(() -> with(""), "check(33)", Edges.ARGUMENT, Stands::richWithoutInput, "errorPosition()", "0");
        Edges.leaves(() -> with("9:0,0;e1"), "check(33)", Edges.ARGUMENT, Stands::richWithoutInput, "errorPosition()", "6");
        Edges.sentence(0, "If the day of check is out of range, the text is not read.");
        for (String text : new String[] {"", "x", "0:1,4x", "0:1,40"}) {
            for (int day : new int[] {-1, 34}) {
                Edges.leaves(() -> with(text), "check(" + day + ")", Edges.ARGUMENT, Stands::richWithoutInput);
                BuildingCensus census = Stands.typed(text);
                Edges.run(census, "check(" + day + ")", Edges.ARGUMENT, "total(8)", 0, "errorPosition()", Edges.ELEMENT);
            }
        }
    }
}
