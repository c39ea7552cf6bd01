/** Sentences on days, buildings, floors and units: promises 1 to 5. */
final class PlaceEdges {
    private PlaceEdges() {
    }

    static void all() {
        days();
        buildings();
        floors();
        units();
        room();
        promise1();
        promise2();
        promise3();
        promise4();
        promise5();
        promise5Numbers();
    }

    private static void days() {
        Edges.sentence(0, "Days. The present day is 0 at first.");
        Edges.run(new BuildingCensus(), "total(0)", 0, "count(0, -1, -1, false)", 0,
                "count(1, -1, -1, false)", Edges.ARGUMENT, "pass(1)", 0, "total(0)", 1);
    }

    private static void buildings() {
        Edges.sentence(0, "Buildings and floors. There are at most 4 buildings, numbered from 0 in the order in which "
                + "they were added.");
        Edges.run(new BuildingCensus(), "addBuilding(10)", 0, "addBuilding(999)", 1, "addBuilding(500)", 2,
                "addBuilding(11)", 3, "total(1)", 4, "building(0, 1)", 10, "building(1, 1)", 999, "building(2, 1)", 500,
                "building(3, 1)", 11, "building(4, 1)", Edges.INDEX);
        Edges.leaves(Stands::fourBuildings, "addBuilding(10)", Edges.STATE);
        Edges.sentence(0, "A building has at most 6 floors, numbered likewise; a new building has one floor.");
        Edges.run(Stands.oneBuilding(), "building(0, 0)", 1, "floor(0, 0, 0)", 100, "floor(0, 1, 0)", Edges.INDEX);
        BuildingCensus census = Stands.sixFloors();
        Edges.run(census, "building(0, 0)", 6, "building(1, 0)", 1, "floor(0, 6, 0)", Edges.INDEX,
                "apply(5, 0, 10, 0, 0)", 5, "grant(5)", Edges.STATE, "reason()", 5);
        for (int floor = 0; floor < 6; floor++) {
            Edges.run(census, "floor(0, " + floor + ", 0)", 10 + floor);
        }
    }

    private static void floors() {
        Edges.sentence(0, "A floor has an area from 10 to 999.");
        Edges.answers(Stands::oneBuilding, "addBuilding(10)", 1);
        Edges.answers(Stands::oneBuilding, "addBuilding(999)", 1);
        Edges.leaves(Stands::oneBuilding, "addBuilding(9)", Edges.ARGUMENT);
        Edges.leaves(Stands::oneBuilding, "addBuilding(1000)", Edges.ARGUMENT);
        for (int area : new int[] {10, 999}) {
            BuildingCensus census = Stands.oneBuilding();
            Due.is("floor", 1, Due.carry(census, 5, 0, area, 0, 0));
            Edges.run(census, "floor(0, 1, 0)", area, "floor(0, 1, 1)", area, "building(0, 1)", 100 + area);
        }
    }

    private static void units() {
        Edges.sentence(0, "Units. There are 5 uses, numbered from 0.");
        for (int use = 0; use < 5; use++) {
            BuildingCensus census = Stands.oneBuilding();
            Due.carry(census, 0, 0, 0, 30, use);
            Edges.run(census, "unit(0, " + (10 + use) + ")", 30, "count(0, -1, " + use + ", true)", 30);
        }
        for (int use : new int[] {-1, 5}) {
            Edges.answers(Stands::rich, "apply(0, 0, 0, 1, " + use + ")", Edges.ARGUMENT);
            Edges.answers(Stands::rich, "apply(3, 0, 1, " + use + ", 0)", Edges.ARGUMENT);
            Edges.answers(Stands::rich, "unit(0, " + (10 + use) + ")", Edges.ARGUMENT);
        }
        Edges.answers(Stands::rich, "count(0, -1, 5, true)", Edges.INDEX);
        Edges.sentence(0, "At most 60 units can come, numbered from 0.");
        Edges.run(Stands.sixtyUnits(), "total(2)", 60, "unit(0, 3)", 0, "unit(59, 4)", -1, "unit(59, 14)", 1,
                "unit(60, 0)", Edges.INDEX);
        Edges.run(Stands.sixtyUnits(), "apply(0, 0, 0, 1, 0)", 31, "grant(31)", Edges.STATE, "reason()", 5,
                "apply(1, 59, 1, 0, 0)", 32, "permit(32, 7)", 4, "apply(1, 58, 1, 0, 0)", 33, "permit(33, 7)", 5,
                "apply(2, 58, 59, 0, 0)", 34, "permit(34, 7)", 5, "apply(3, 59, 1, 4, 0)", 35, "permit(35, 7)", 5,
                "apply(4, 59, 0, 0, 0)", 36, "permit(36, 7)", 0, "apply(5, 0, 10, 0, 0)", 37, "permit(37, 7)", 0);
        Edges.run(Stands.units(59), "apply(1, 58, 1, 0, 0)", 30, "permit(30, 7)", 5, "apply(0, 0, 0, 1, 0)", 31,
                "grant(31)", 1, "begin(31)", 0, "finish(31)", 59);
        Edges.sentence(0, "A unit is on a floor of a building and has an area of each use, which is 0 or more; its area "
                + "is the sum of these.");
        BuildingCensus census = Stands.oneBuilding();
        Due.carry(census, 0, 0, 0, 30, 2);
        Edges.run(census, "unit(0, 0)", 0, "unit(0, 1)", 0, "unit(0, 10)", 0, "unit(0, 12)", 30, "unit(0, 2)", 30,
                "apply(3, 0, 31, 2, 0)", 1, "permit(1, 7)", 4);
        Due.carry(census, 3, 0, 30, 2, 0);
        Due.carry(census, 3, 1, 1, 0, 4);
        Edges.run(census, "unit(2, 12)", 0, "unit(2, 10)", 29, "unit(2, 14)", 1, "unit(2, 2)", 30);
        Edges.sentence(0, "A unit has a day on which it came, and perhaps a day on which it ended; as long as it has not "
                + "ended, it is present.");
        census = Stands.atDay(7);
        Edges.run(census, "unit(0, 3)", 0, "unit(0, 4)", -1, "total(3)", 1, "building(0, 2)", 1);
        Due.carry(census, 4, 0, 0, 0, 0);
        Edges.run(census, "unit(0, 3)", 0, "unit(0, 4)", 7, "total(3)", 0, "building(0, 2)", 0, "pass(1)", 0,
                "unit(0, 4)", 7);
        census = Stands.oneBuilding();
        Due.carry(census, 0, 0, 0, 30, 0);
        Due.carry(census, 4, 0, 0, 0, 0);
        Edges.run(census, "unit(0, 4)", 0, "total(3)", 0);
    }

    private static void room() {
        Edges.sentence(0, "The room of a floor is its area minus the areas of the units on it that are present.");
        BuildingCensus census = Due.census(100, 100);
        Edges.run(census, "floor(0, 0, 1)", 100);
        Due.carry(census, 0, 0, 0, 99, 0);
        Edges.run(census, "floor(0, 0, 1)", 1);
        Due.carry(census, 0, 0, 0, 1, 0);
        Edges.run(census, "floor(0, 0, 1)", 0, "floor(1, 0, 1)", 100);
        Due.carry(census, 5, 0, 10, 0, 0);
        Edges.run(census, "floor(0, 0, 1)", 0, "floor(0, 1, 1)", 10);
        Due.carry(census, 2, 0, 1, 0, 0);
        Edges.run(census, "floor(0, 0, 1)", 0);
        Due.carry(census, 1, 2, 60, 0, 0);
        Edges.run(census, "floor(0, 0, 1)", 0);
        Due.carry(census, 4, 3, 0, 0, 0);
        Edges.run(census, "floor(0, 0, 1)", 60);
        Due.carry(census, 4, 4, 0, 0, 0);
        Edges.run(census, "floor(0, 0, 1)", 100);
    }

    private static void promise1() {
        Edges.sentence(1, "Creates a census without buildings.");
        BuildingCensus census = new BuildingCensus();
        for (int what = 0; what <= 8; what++) {
            Edges.run(census, "total(" + what + ")", 0);
        }
        Edges.run(census, "building(0, 0)", Edges.INDEX, "floor(0, 0, 0)", Edges.INDEX, "unit(0, 0)", Edges.INDEX,
                "permit(0, 0)", Edges.INDEX, "reason()", Edges.ELEMENT, "errorPosition()", Edges.ELEMENT,
                "fullestDay()", 0, "meanArea(0)", Edges.ARITHMETIC, "undo()", Edges.STATE, "restore()", Edges.STATE);
    }

    private static void promise2() {
        Edges.sentence(2, "Adds a building with one floor.");
        Edges.run(new BuildingCensus(), "addBuilding(77)", 0, "building(0, 0)", 1, "floor(0, 0, 0)", 77,
                "floor(0, 0, 1)", 77, "floor(0, 0, 2)", 0, "floor(0, 0, 3)", 77, "floor(0, 1, 0)", Edges.INDEX);
        Edges.sentence(2, "`area`: the area of the floor, 10 to 999");
        for (int area : new int[] {10, 11, 998, 999}) {
            Edges.run(new BuildingCensus(), "addBuilding(" + area + ")", 0, "building(0, 1)", area);
        }
        Edges.sentence(2, "Returns the number of the building.");
        Edges.run(new BuildingCensus(), "addBuilding(10)", 0, "addBuilding(10)", 1, "undo()", 1, "addBuilding(10)", 1);
        Edges.sentence(2, "Throws `IllegalArgumentException` if the area is out of range");
        for (int area : new int[] {9, 1000, 0, -10, -999, Integer.MIN_VALUE, Integer.MAX_VALUE}) {
            Edges.leaves(Stands::empty, "addBuilding(" + area + ")", Edges.ARGUMENT);
            Edges.leaves(Stands::rich, "addBuilding(" + area + ")", Edges.ARGUMENT);
            Edges.leaves(Stands::fourBuildings, "addBuilding(" + area + ")", Edges.ARGUMENT);
        }
        Edges.sentence(2, "Throws `IllegalStateException` if there are 4 buildings");
        Edges.answers(() -> Due.census(10, 10, 10), "addBuilding(10)", 3);
        Edges.leaves(() -> Due.census(10, 10, 10, 10), "addBuilding(10)", Edges.STATE);
        Edges.leaves(Stands::fourBuildings, "addBuilding(999)", Edges.STATE);
    }

    private static void promise3() {
        Edges.sentence(3, "Returns a number of a building.");
        Edges.leaves(Stands::rich, "building(0, 0)", 1);
        Edges.leaves(Stands::rich, "building(1, 0)", 2);
        Edges.sentence(3, "`building`: the building");
        Edges.answers(Stands::fourBuildings, "building(0, 1)", 10);
        Edges.answers(Stands::fourBuildings, "building(3, 1)", 11);
        Edges.sentence(3, "`what`: 0 for the number of its floors, 1 for the sum of their areas, 2 for the number of units "
                + "on it that are present, 3 for the sum of their areas");
        Edges.run(Stands.rich(), "building(0, 0)", 1, "building(0, 1)", 100, "building(0, 2)", 1, "building(0, 3)", 40,
                "building(1, 0)", 2, "building(1, 1)", 70, "building(1, 2)", 1, "building(1, 3)", 7);
        Edges.run(Stands.sixFloors(), "building(0, 0)", 6, "building(0, 1)", 75, "building(0, 2)", 0, "building(0, 3)", 0);
        Edges.sentence(3, "Returns the number.");
        Edges.run(Stands.sixtyUnits(), "building(0, 2)", 31, "building(0, 3)", 901);
        Edges.sentence(3, "Throws `IndexOutOfBoundsException` if there is no such building");
        for (int building : new int[] {-1, 2, 4, Integer.MIN_VALUE, Integer.MAX_VALUE}) {
            Edges.leaves(Stands::rich, "building(" + building + ", 0)", Edges.INDEX);
            Edges.answers(Stands::rich, "building(" + building + ", 4)", Edges.INDEX);
        }
        Edges.leaves(Stands::empty, "building(0, 0)", Edges.INDEX);
        Edges.leaves(Stands::fourBuildings, "building(4, 0)", Edges.INDEX);
        Edges.sentence(3, "Throws `IllegalArgumentException` if what is out of range");
        for (int what : new int[] {-1, 4, Integer.MIN_VALUE, Integer.MAX_VALUE}) {
            Edges.leaves(Stands::rich, "building(1, " + what + ")", Edges.ARGUMENT);
        }
    }

    private static void promise4() {
        Edges.sentence(4, "Returns a number of a floor.");
        Edges.leaves(Stands::rich, "floor(1, 1, 0)", 20);
        Edges.sentence(4, "`building`: the building");
        Edges.answers(Stands::fourBuildings, "floor(0, 0, 0)", 10);
        Edges.answers(Stands::fourBuildings, "floor(3, 0, 0)", 11);
        Edges.sentence(4, "`floor`: the floor");
        Edges.answers(Stands::sixFloors, "floor(0, 0, 0)", 10);
        Edges.answers(Stands::sixFloors, "floor(0, 5, 0)", 15);
        Edges.sentence(4, "`what`: 0 for its area, 1 for its room, 2 for the number of units on it that are present, 3 for "
                + "its room minus the areas of the new units of all open permits of the kind 0 for it");
        Edges.run(Stands.rich(), "floor(0, 0, 0)", 100, "floor(0, 0, 1)", 60, "floor(0, 0, 2)", 1, "floor(0, 0, 3)", 50,
                "floor(1, 0, 0)", 50, "floor(1, 0, 1)", 50, "floor(1, 0, 2)", 0, "floor(1, 0, 3)", 50,
                "floor(1, 1, 0)", 20, "floor(1, 1, 1)", 13, "floor(1, 1, 2)", 1, "floor(1, 1, 3)", 13);
        // Of the stages 0 to 6, the areas 2 and 3 are open, and the 4 has come.
        Edges.run(Stands.stages(), "floor(0, 0, 1)", 96, "floor(0, 0, 3)", 91);
        Edges.sentence(4, "Returns the number.");
        BuildingCensus full = Stands.oneBuilding();
        Due.carry(full, 0, 0, 0, 1, 0);
        Due.open(full, 0, 0, 0, 99, 0);
        Edges.run(full, "floor(0, 0, 1)", 99, "floor(0, 0, 3)", 0, "begin(1)", 0, "floor(0, 0, 3)", 0, "finish(1)", 1,
                "floor(0, 0, 1)", 0, "floor(0, 0, 3)", 0, "floor(0, 0, 2)", 2);
        Edges.sentence(4, "Throws `IndexOutOfBoundsException` if there is no such building or floor");
        for (int wrong : new int[] {-1, 2, Integer.MIN_VALUE, Integer.MAX_VALUE}) {
            Edges.leaves(Stands::rich, "floor(" + wrong + ", 0, 0)", Edges.INDEX);
            Edges.leaves(Stands::rich, "floor(1, " + wrong + ", 0)", Edges.INDEX);
            Edges.answers(Stands::rich, "floor(1, " + wrong + ", 4)", Edges.INDEX);
        }
        Edges.leaves(Stands::empty, "floor(0, 0, 0)", Edges.INDEX);
        Edges.leaves(Stands::rich, "floor(0, 1, 0)", Edges.INDEX);
        Edges.leaves(Stands::sixFloors, "floor(0, 6, 0)", Edges.INDEX);
        Edges.leaves(Stands::fourBuildings, "floor(4, 0, 0)", Edges.INDEX);
        Edges.sentence(4, "Throws `IllegalArgumentException` if what is out of range");
        for (int what : new int[] {-1, 4, Integer.MIN_VALUE, Integer.MAX_VALUE}) {
            Edges.leaves(Stands::rich, "floor(1, 1, " + what + ")", Edges.ARGUMENT);
        }
    }

    private static void promise5() {
        Edges.sentence(5, "Returns a number of a unit.");
        Edges.leaves(Stands::rich, "unit(6, 2)", 40);
        Edges.sentence(5, "`unit`: the unit");
        Edges.answers(Stands::rich, "unit(0, 2)", 30);
        Edges.answers(Stands::sixtyUnits, "unit(59, 2)", 1);
        Edges.sentence(5, "Throws `IndexOutOfBoundsException` if there is no such unit");
        for (int unit : new int[] {-1, 7, 60, 64, Integer.MIN_VALUE, Integer.MAX_VALUE}) {
            Edges.leaves(Stands::rich, "unit(" + unit + ", 0)", Edges.INDEX);
            Edges.answers(Stands::rich, "unit(" + unit + ", 8)", Edges.INDEX);
        }
        Edges.leaves(Stands::empty, "unit(0, 0)", Edges.INDEX);
        Edges.answers(Stands::sixtyUnits, "unit(60, 0)", Edges.INDEX);
        Edges.sentence(5, "Throws `IllegalArgumentException` if what is out of range");
        for (int what : new int[] {-1, 8, 9, 15, Integer.MIN_VALUE, Integer.MIN_VALUE + 9, Integer.MAX_VALUE}) {
            Edges.leaves(Stands::rich, "unit(6, " + what + ")", Edges.ARGUMENT);
        }
    }

    private static void promise5Numbers() {
        Edges.sentence(5, "`what`: 0 for its building, 1 for its floor, 2 for its area, 3 for the day on which it came, 4 for "
                + "the day on which it ended, -1 if it is present, 5 for its generation, 6 for the number of its parents, 7 "
                + "for the permit by which it came, 10 + u for its area of use u");
        Edges.run(Stands.rich(), "unit(5, 0)", 1, "unit(5, 1)", 1, "unit(5, 2)", 7, "unit(5, 3)", 33, "unit(5, 4)", -1,
                "unit(5, 5)", 0, "unit(5, 6)", 0, "unit(5, 7)", 9, "unit(5, 10)", 0, "unit(5, 14)", 7);
        Edges.run(Stands.rich(), "unit(4, 0)", 0, "unit(4, 1)", 0, "unit(4, 2)", 40, "unit(4, 3)", 2, "unit(4, 4)", 33,
                "unit(4, 5)", 2, "unit(4, 6)", 2, "unit(4, 7)", 4, "unit(4, 10)", 20, "unit(4, 11)", 20, "unit(4, 12)", 0);
        Edges.sentence(5, "Returns the number.");
        Edges.run(Stands.rich(), "unit(6, 3)", 33, "unit(6, 5)", 3, "unit(6, 6)", 1, "unit(6, 7)", 10, "unit(6, 10)", 15,
                "unit(6, 11)", 20, "unit(6, 12)", 0, "unit(6, 13)", 5, "unit(6, 14)", 0);
    }
}
