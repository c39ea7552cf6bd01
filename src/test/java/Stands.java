/** Objects at the bounds that the document names, and one with something of everything. */
final class Stands {
    private Stands() {
    }

    /**
     * Two buildings; units 0 to 6, of which 5 and 6 are present; permits of every stage and kind (11 is granted,
     * 12 begun, 13 and 14 applied); day 33; something saved; 8 changes; the reason 3; the error position 3; an input.
     */
    static BuildingCensus rich() {
        BuildingCensus census = richWithoutInput();
        Due.type(census, "e6;u");
        return census;
    }

    static BuildingCensus richWithoutInput() {
        BuildingCensus census = Due.census(100, 50);
        Due.carry(census, 0, 0, 0, 30, 0);
        census.pass(2);
        Due.carry(census, 5, 1, 20, 0, 0);
        Due.carry(census, 0, 0, 0, 20, 1);
        Due.carry(census, 1, 0, 10, 0, 0);
        Due.carry(census, 2, 1, 3, 0, 0);
        Due.carry(census, 4, 2, 0, 0, 0);
        census.refuse(census.apply(4, 4, 0, 0, 0));
        census.withdraw(census.apply(4, 4, 0, 0, 0));
        Due.open(census, 0, 1, 0, 5, 2);
        census.pass(31);
        Due.carry(census, 0, 1, 1, 7, 4);
        census.save();
        Due.carry(census, 3, 4, 5, 0, 3);
        Due.open(census, 0, 0, 0, 10, 2);
        census.begin(Due.open(census, 1, 6, 9, 0, 0));
        census.apply(0, 0, 0, 999, 0);
        census.apply(4, 5, 0, 0, 0);
        Edges.run(census, "grant(13)", Edges.STATE);
        Due.type(census, "e1;x");
        Edges.run(census, "applyAll()", Edges.ARGUMENT);
        return census;
    }

    static BuildingCensus richWith(String text) {
        BuildingCensus census = richWithoutInput();
        Due.type(census, text);
        return census;
    }

    static BuildingCensus empty() {
        return new BuildingCensus();
    }

    /** A new object with a text in its input. */
    static BuildingCensus typed(String text) {
        BuildingCensus census = new BuildingCensus();
        Due.type(census, text);
        return census;
    }

    static BuildingCensus oneBuilding() {
        return Due.census(100);
    }

    static BuildingCensus fourBuildings() {
        return Due.census(10, 999, 500, 11);
    }

    /** A building with floors of 10 to 15, and another one with one floor. */
    static BuildingCensus sixFloors() {
        BuildingCensus census = Due.census(10, 100);
        for (int area = 11; area <= 15; area++) {
            Due.carry(census, 5, 0, area, 0, 0);
        }
        return census;
    }

    /** Units by splits and, for an even number, one more new unit; the last one is present. */
    static BuildingCensus units(int units) {
        BuildingCensus census = Due.census(999);
        Due.carry(census, 0, 0, 0, 900, 0);
        for (int unit = 0; unit + 2 < units; unit += 2) {
            Due.carry(census, 1, unit, 5, 0, 0);
        }
        if (units % 2 == 0) {
            Due.carry(census, 0, 0, 0, 1, 4);
        }
        return census;
    }

    static BuildingCensus sixtyUnits() {
        return units(60);
    }

    static BuildingCensus permits(int permits) {
        BuildingCensus census = Due.census(100);
        for (int i = 0; i < permits; i++) {
            census.apply(0, 0, 0, i + 1, 0);
        }
        return census;
    }

    static BuildingCensus fortyPermits() {
        return permits(40);
    }

    /** A building with a unit, at this day. */
    static BuildingCensus atDay(int day) {
        BuildingCensus census = Due.census(100);
        Due.carry(census, 0, 0, 0, 30, 0);
        for (int rest = day; rest > 0; rest -= 99) {
            census.pass(Math.min(rest, 99));
        }
        return census;
    }

    static BuildingCensus lastDay() {
        return atDay(9999);
    }

    /** A building and an applied, granted, begun, finished, refused, lapsed and withdrawn permit: 0 to 6, on day 31. */
    static BuildingCensus stages() {
        BuildingCensus census = Due.census(100);
        for (int permit = 0; permit < 7; permit++) {
            census.apply(0, 0, 0, 1 + permit, 0);
        }
        for (int permit : new int[] {2, 3, 5}) {
            census.grant(permit);
        }
        census.begin(2);
        census.begin(3);
        census.finish(3);
        census.refuse(4);
        census.withdraw(6);
        census.pass(31);
        census.grant(1);
        return census;
    }
}
