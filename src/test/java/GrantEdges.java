/** Sentences on the reasons for which a permit is not granted, with those of "In doubt". */
final class GrantEdges {
    private GrantEdges() {
    }

    static void all() {
        granted();
        reason1();
        reason2();
        reason2Stages();
        reason3();
        reason3Stages();
        reason3Alone();
        reason4();
        reason5();
        reason5Counting();
        firstAndLastPermit();
        firstReason();
        tellsNoUnit();
        sameUseTwice();
        keepNoReason();
    }

    /** Asks by a permit with these numbers, which is taken back then, in all ways for this reason, or for none (0). */
    private static void reason(BuildingCensus census, int want, String numbers) {
        int permit = census.total(4);
        int open = census.total(5);
        Edges.run(census, "apply(" + numbers + ")", permit, "permit(" + permit + ", 7)", want);
        if (want == 0) {
            Edges.run(census, "grant(" + permit + ")", open + 1, "permit(" + permit + ", 5)", 1);
            census.undo();
        } else {
            Edges.run(census, "grant(" + permit + ")", Edges.STATE, "reason()", want, "permit(" + permit + ", 5)", 0,
                    "total(5)", open);
        }
        Edges.run(census, "refuse(" + permit + ")", want, "permit(" + permit + ", 5)", 4);
        census.undo();
        census.undo();
        Edges.run(census, "total(4)", permit, "total(5)", open);
    }

    private static void granted() {
        Edges.sentence(0, "Granting. A permit that is applied can be granted; this is refused for the first of these reasons "
                + "that applies:");
        for (String numbers : new String[] {"0, 0, 0, 60, 0", "1, 6, 39, 0, 0", "3, 6, 20, 1, 2", "4, 6, 0, 0, 0",
            "4, 5, 0, 0, 0", "5, 1, 999, 0, 0"}) {
            BuildingCensus census = Stands.rich();
            census.withdraw(11);
            census.withdraw(12);
            reason(census, 0, numbers);
        }
    }

    private static void reason1() {
        Edges.sentence(0, "1, it tells a building or a floor that there is not, or a unit that is not present, or the same unit "
                + "twice, or two units on different floors;");
        BuildingCensus census = floorsAndUnits();
        reason(census, 0, "0, 1, 0, 1, 0");
        reason(census, 1, "0, 2, 0, 1, 0");
        reason(census, 1, "0, 9, 9, 1, 0");
        reason(census, 0, "0, 0, 1, 1, 0");
        reason(census, 1, "0, 0, 2, 1, 0");
        reason(census, 1, "0, 1, 1, 1, 0");
        reason(census, 0, "5, 1, 10, 0, 0");
        reason(census, 1, "5, 2, 10, 0, 0");
        reason(census, 1, "5, 9, 10, 0, 0");
        for (String unit : new String[] {"6", "4", "60", "64", "999"}) {
            reason(census, 1, "1, " + unit + ", 1, 0, 0");
            reason(census, 1, "2, " + unit + ", 0, 0, 0");
            reason(census, 1, "2, 0, " + unit + ", 0, 0");
            reason(census, 1, "3, " + unit + ", 1, 0, 0");
            reason(census, 1, "4, " + unit + ", 0, 0, 0");
        }
        reason(floorsAndUnits(), 0, "2, 0, 1, 0, 0");
        reason(floorsAndUnits(), 0, "2, 1, 0, 0, 0");
        reason(floorsAndUnits(), 1, "2, 0, 0, 0, 0");
        reason(floorsAndUnits(), 1, "2, 0, 2, 0, 0");
        reason(floorsAndUnits(), 1, "2, 3, 0, 0, 0");
        reason(floorsAndUnits(), 0, "2, 3, 5, 0, 0");
        // The floor 1 of one building, and the floor 1 of another one.
        BuildingCensus likely = floorsAndUnits();
        Due.carry(likely, 5, 1, 50, 0, 0);
        Due.carry(likely, 0, 1, 1, 10, 0);
        reason(likely, 1, "2, 2, 6, 0, 0");
        Edges.run(new BuildingCensus(), "apply(0, 0, 0, 1, 0)", 0, "permit(0, 7)", 1, "apply(5, 0, 10, 0, 0)", 1,
                "permit(1, 7)", 1);
    }

    /** Units 0 and 1 on the floor 0 of building 0, 2 on its floor 1, 3 and 5 on the floor 0 of building 1; 4 ended. */
    private static BuildingCensus floorsAndUnits() {
        BuildingCensus census = Due.census(100, 100);
        Due.carry(census, 5, 0, 50, 0, 0);
        Due.carry(census, 0, 0, 0, 10, 0);
        Due.carry(census, 0, 0, 0, 10, 0);
        Due.carry(census, 0, 0, 1, 10, 0);
        Due.carry(census, 0, 1, 0, 10, 0);
        Due.carry(census, 0, 0, 0, 10, 0);
        Due.carry(census, 4, 4, 0, 0, 0);
        Due.carry(census, 0, 1, 0, 10, 0);
        return census;
    }

    private static void reason2() {
        Edges.sentence(0, "2, an open permit tells one of its units;");
        String[] open = {"1, 0, 1, 0, 0", "2, 0, 2, 0, 0", "2, 2, 0, 0, 0", "3, 0, 1, 0, 1", "4, 0, 0, 0, 0"};
        for (String numbers : open) {
            BuildingCensus census = threeUnits();
            Edges.run(census, "apply(" + numbers + ")", 3, "grant(3)", 1);
            for (String other : new String[] {"1, 0, 1, 0, 0", "2, 0, 1, 0, 0", "2, 1, 0, 0, 0", "3, 0, 1, 0, 1", "4, 0, 0, 0, 0"}) {
                reason(census, 2, other);
            }
            reason(census, 0, "4, 1, 0, 0, 0");
            reason(census, numbers.startsWith("2") ? 2 : 0, "4, 2, 0, 0, 0");
            reason(census, numbers.startsWith("2") ? 2 : 0, "2, 1, 2, 0, 0");
        }
    }

    private static BuildingCensus threeUnits() {
        BuildingCensus census = Due.census(100);
        for (int unit = 0; unit < 3; unit++) {
            Due.carry(census, 0, 0, 0, 10, 0);
        }
        return census;
    }

    private static void reason2Stages() {
        Edges.sentence(0, "2, an open permit tells one of its units;");
        // Only while it is open: applied, granted, begun, finished; withdrawn; lapsed; refused.
        BuildingCensus census = threeUnits();
        Edges.run(census, "apply(5, 0, 10, 0, 0)", 3, "apply(4, 1, 0, 0, 0)", 4, "apply(3, 1, 1, 0, 1)", 5,
                "permit(4, 7)", 0, "permit(5, 7)", 0, "grant(4)", 1, "permit(5, 7)", 2, "begin(4)", 0, "permit(5, 7)", 2,
                "withdraw(4)", 2, "permit(5, 7)", 0, "grant(5)", 1, "pass(30)", 0, "apply(4, 1, 0, 0, 0)", 6,
                "permit(6, 7)", 2, "pass(1)", 1, "permit(6, 7)", 0, "refuse(6)", 0, "apply(4, 1, 0, 0, 0)", 7, "grant(7)", 1,
                "begin(7)", 0, "finish(7)", -1, "apply(4, 1, 0, 0, 0)", 8, "permit(8, 7)", 1);
    }

    private static void reason3() {
        Edges.sentence(0, "3, the area of its new unit is greater than the room of the floor, minus the areas of the new units "
                + "of all open permits of the kind 0 for this floor;");
        reason(Stands.oneBuilding(), 0, "0, 0, 0, 100, 0");
        reason(Stands.oneBuilding(), 3, "0, 0, 0, 101, 0");
        reason(Stands.oneBuilding(), 3, "0, 0, 0, 999, 0");
        reason(Due.census(999), 0, "0, 0, 0, 999, 0");
        BuildingCensus census = Due.census(100, 100);
        Due.carry(census, 5, 0, 100, 0, 0);
        Due.carry(census, 0, 0, 0, 20, 0);
        reason(census, 0, "0, 0, 0, 80, 0");
        reason(census, 3, "0, 0, 0, 81, 0");
        Due.open(census, 0, 0, 0, 30, 0);
        census.begin(Due.open(census, 0, 0, 0, 10, 0));
        census.apply(0, 0, 0, 5, 0);
        reason(census, 0, "0, 0, 0, 40, 0");
        reason(census, 3, "0, 0, 0, 41, 0");
        // Open permits for another floor, or for another building, take no room here.
        Due.open(census, 0, 0, 1, 99, 0);
        Due.open(census, 0, 1, 0, 98, 0);
        reason(census, 0, "0, 0, 0, 40, 0");
        reason(census, 3, "0, 0, 1, 2, 0");
        reason(census, 0, "0, 0, 1, 1, 0");
        reason(census, 0, "0, 1, 0, 2, 0");
        reason(census, 3, "0, 1, 0, 3, 0");
    }

    private static void reason3Alone() {
        Edges.sentence(0, "In doubt. The reason 3 is asked for the kind 0 alone.");
        BuildingCensus full = Stands.oneBuilding();
        Due.carry(full, 0, 0, 0, 50, 0);
        Due.carry(full, 0, 0, 0, 50, 1);
        reason(full, 3, "0, 0, 0, 1, 0");
        reason(full, 0, "1, 0, 49, 0, 0");
        reason(full, 0, "2, 0, 1, 0, 0");
        reason(full, 0, "3, 0, 50, 0, 1");
        reason(full, 0, "4, 0, 0, 0, 0");
        reason(full, 0, "5, 0, 999, 0, 0");
    }

    private static void reason3Stages() {
        Edges.sentence(0, "3, the area of its new unit is greater than the room of the floor, minus the areas of the new units "
                + "of all open permits of the kind 0 for this floor;");
        // The others that are open, of units and of floors, take and give no room before they are finished.
        BuildingCensus census = Due.census(100);
        Due.carry(census, 0, 0, 0, 60, 0);
        Due.open(census, 4, 0, 0, 0, 0);
        Due.open(census, 5, 0, 50, 0, 0);
        reason(census, 0, "0, 0, 0, 40, 0");
        reason(census, 3, "0, 0, 0, 41, 0");
        Edges.run(census, "begin(1)", 0, "finish(1)", -1);
        reason(census, 0, "0, 0, 0, 100, 0");
        reason(census, 3, "0, 0, 0, 101, 0");
        // A granted permit that lapses, or is withdrawn, gives its room back.
        Edges.run(Stands.oneBuilding(), "apply(0, 0, 0, 100, 0)", 0, "grant(0)", 1, "apply(0, 0, 0, 1, 0)", 1,
                "permit(1, 7)", 3, "pass(30)", 0, "permit(1, 7)", 3, "pass(1)", 1, "permit(1, 7)", 0);
        Edges.run(Stands.oneBuilding(), "apply(0, 0, 0, 100, 0)", 0, "grant(0)", 1, "begin(0)", 0, "apply(0, 0, 0, 1, 0)", 1,
                "permit(1, 7)", 3, "withdraw(0)", 2, "permit(1, 7)", 0);
    }

    private static void reason4() {
        Edges.sentence(0, "4, its area cannot be: for the kind 1, it is not less than that of the unit, for the kind 3, it is "
                + "greater than the area of the first use;");
        BuildingCensus census = Due.census(999);
        Due.carry(census, 0, 0, 0, 40, 0);
        Due.carry(census, 3, 0, 15, 0, 3);
        reason(census, 0, "1, 1, 1, 0, 0");
        reason(census, 0, "1, 1, 39, 0, 0");
        reason(census, 4, "1, 1, 40, 0, 0");
        reason(census, 4, "1, 1, 41, 0, 0");
        reason(census, 4, "1, 1, 999, 0, 0");
        reason(census, 0, "3, 1, 25, 0, 3");
        reason(census, 4, "3, 1, 26, 0, 3");
        reason(census, 0, "3, 1, 15, 3, 0");
        reason(census, 4, "3, 1, 16, 3, 0");
        reason(census, 4, "3, 1, 1, 1, 0");
        reason(census, 4, "3, 1, 999, 4, 4");
        Due.carry(census, 0, 0, 0, 1, 2);
        // A unit of the area 1 cannot be split.
        reason(census, 4, "1, 2, 1, 0, 0");
        reason(census, 0, "3, 2, 1, 2, 0");
    }

    private static void reason5() {
        Edges.sentence(0, "5, there would be more than 60 units, or more than 6 floors of a building, if all open permits and "
                + "this one were finished.");
        reason(Stands.units(58), 0, "1, 56, 1, 0, 0");
        reason(Stands.units(59), 5, "1, 58, 1, 0, 0");
        reason(Stands.units(59), 0, "0, 0, 0, 1, 0");
        reason(Stands.units(59), 0, "3, 58, 1, 0, 0");
        reason(Stands.units(59), 0, "2, 58, 57, 0, 0");
        reason(Stands.sixtyUnits(), 5, "0, 0, 0, 1, 0");
        reason(Stands.sixtyUnits(), 5, "1, 58, 1, 0, 0");
        reason(Stands.sixtyUnits(), 5, "2, 58, 59, 0, 0");
        reason(Stands.sixtyUnits(), 5, "3, 59, 1, 4, 0");
        reason(Stands.sixtyUnits(), 0, "4, 59, 0, 0, 0");
        reason(Stands.sixtyUnits(), 0, "5, 0, 10, 0, 0");
        reason(PermitEdges.floors(5), 0, "5, 0, 10, 0, 0");
        reason(PermitEdges.floors(6), 5, "5, 0, 10, 0, 0");
        reason(PermitEdges.floors(6), 0, "5, 1, 10, 0, 0");
        reason(PermitEdges.floors(6), 0, "0, 0, 0, 100, 0");
        BuildingCensus census = PermitEdges.floors(4);
        Due.open(census, 5, 0, 10, 0, 0);
        Due.open(census, 5, 1, 10, 0, 0);
        reason(census, 0, "5, 0, 10, 0, 0");
        census.begin(Due.open(census, 5, 0, 10, 0, 0));
        reason(census, 5, "5, 0, 10, 0, 0");
        reason(census, 0, "5, 1, 10, 0, 0");
        Edges.run(census, "apply(5, 0, 10, 0, 0)", census.total(4), "pass(31)", 2);
        // One of the two was granted and has lapsed; the other one has begun and stays.
        reason(census, 0, "5, 0, 10, 0, 0");
    }

    private static void reason5Counting() {
        Edges.sentence(0, "For the reason 5, all units that came count, also those that ended, with the units that would come by "
                + "all open permits and this one: one by the kinds 0, 2 and 3, two by the kind 1.");
        // 57 units, of which 29 are present: room for three more by the open permits and this one.
        BuildingCensus census = Stands.units(57);
        Edges.run(census, "total(2)", 57, "total(3)", 29);
        Due.open(census, 1, 56, 1, 0, 0);
        reason(census, 0, "0, 0, 0, 1, 0");
        reason(census, 0, "2, 53, 51, 0, 0");
        reason(census, 0, "3, 53, 1, 0, 0");
        reason(census, 5, "1, 53, 1, 0, 0");
        Due.open(census, 4, 49, 0, 0, 0);
        Due.open(census, 5, 0, 10, 0, 0);
        reason(census, 0, "3, 53, 1, 0, 0");
        for (int kind : new int[] {0, 2, 3}) {
            census = Stands.units(58);
            Due.open(census, kind, kind == 0 ? 0 : 55, kind == 0 ? 0 : kind == 2 ? 53 : 1, kind == 0 ? 1 : 0, 0);
            reason(census, 0, "3, 51, 1, 0, 0");
            reason(census, 5, "1, 51, 1, 0, 0");
            census.begin(census.total(4) - 1);
            reason(census, 0, "0, 0, 0, 1, 0");
            reason(census, 5, "1, 51, 1, 0, 0");
        }
        census = Stands.units(58);
        Due.open(census, 1, 56, 1, 0, 0);
        reason(census, 5, "0, 0, 0, 1, 0");
        reason(census, 0, "4, 51, 0, 0, 0");
        // One that is not open any more does not count.
        Edges.run(census, "pass(31)", 1);
        reason(census, 0, "1, 51, 1, 0, 0");
        // Though all units end, they count.
        census = Stands.sixtyUnits();
        for (int unit : new int[] {59, 58, 57, 55, 53, 51}) {
            Due.carry(census, 4, unit, 0, 0, 0);
        }
        reason(census, 5, "0, 0, 0, 1, 0");
    }

    /** The open permit is the one with the lowest number, or the one with the highest that there can be. */
    private static void firstAndLastPermit() {
        Edges.sentence(0, "2, an open permit tells one of its units;");
        BuildingCensus census = Stands.oneBuilding();
        census.apply(4, 0, 0, 0, 0);
        Due.carry(census, 0, 0, 0, 10, 0);
        Edges.run(census, "grant(0)", 1);
        reason(census, 2, "4, 0, 0, 0, 0");
        census = Stands.oneBuilding();
        Due.carry(census, 0, 0, 0, 10, 0);
        for (int permit = 1; permit < 40; permit++) {
            census.apply(4, 0, 0, 0, 0);
        }
        Edges.run(census, "permit(1, 7)", 0, "permit(38, 7)", 0, "grant(39)", 1, "permit(1, 7)", 2, "permit(38, 7)", 2);
        Edges.sentence(0, "3, the area of its new unit is greater than the room of the floor, minus the areas of the new units "
                + "of all open permits of the kind 0 for this floor;");
        census = Stands.fortyPermits();
        Edges.run(census, "permit(38, 3)", 39, "grant(39)", 1, "permit(38, 7)", 0, "grant(30)", 2, "permit(38, 7)", 3,
                "permit(28, 7)", 0, "permit(29, 7)", 3);
        Edges.sentence(0, "5, there would be more than 60 units, or more than 6 floors of a building, if all open permits and "
                + "this one were finished.");
        census = Due.census(999);
        census.apply(0, 0, 0, 1, 0);
        Due.carry(census, 0, 0, 0, 900, 0);
        for (int unit = 0; unit < 58; unit += 2) {
            Due.carry(census, 1, unit, 5, 0, 0);
        }
        Edges.run(census, "total(2)", 59);
        reason(census, 0, "0, 0, 0, 1, 0");
        Edges.run(census, "grant(0)", 1);
        reason(census, 5, "0, 0, 0, 1, 0");
        census = Stands.oneBuilding();
        for (int permit = 0; permit < 40; permit++) {
            census.apply(5, 0, 10, 0, 0);
        }
        Edges.run(census, "grant(0)", 1, "grant(39)", 2, "grant(20)", 3, "grant(1)", 4, "permit(38, 7)", 0, "grant(38)", 5,
                "permit(37, 7)", 5, "grant(2)", Edges.STATE, "withdraw(0)", 1, "permit(37, 7)", 0, "grant(2)", 5,
                "permit(37, 7)", 5, "withdraw(39)", 1, "permit(37, 7)", 0);
    }

    private static void firstReason() {
        Edges.sentence(0, "Granting. A permit that is applied can be granted; this is refused for the first of these reasons "
                + "that applies:");
        BuildingCensus census = floorsAndUnits();
        // 1 before 3, before 4, before 2.
        reason(census, 1, "0, 0, 2, 999, 0");
        reason(census, 1, "1, 4, 999, 0, 0");
        reason(census, 1, "3, 4, 999, 0, 0");
        Due.open(census, 4, 0, 0, 0, 0);
        reason(census, 1, "2, 0, 0, 0, 0");
        reason(census, 1, "2, 0, 2, 0, 0");
        reason(census, 1, "2, 0, 4, 0, 0");
        reason(census, 2, "2, 0, 1, 0, 0");
        // 2 before 4.
        reason(census, 2, "1, 0, 999, 0, 0");
        reason(census, 2, "3, 0, 999, 0, 0");
        // 1, 2, 3 and 4 before 5.
        census = Stands.sixtyUnits();
        reason(census, 1, "1, 0, 1, 0, 0");
        reason(census, 1, "0, 0, 1, 1, 0");
        Due.open(census, 4, 58, 0, 0, 0);
        reason(census, 2, "1, 58, 1, 0, 0");
        reason(census, 3, "0, 0, 0, 999, 0");
        reason(census, 3, "0, 0, 0, 99, 0");
        reason(census, 5, "0, 0, 0, 98, 0");
        reason(census, 4, "1, 59, 1, 0, 0");
        reason(census, 4, "3, 59, 2, 4, 0");
    }

    private static void tellsNoUnit() {
        Edges.sentence(0, "A permit of the kind 0 or 5 tells no unit.");
        BuildingCensus census = Due.census(100, 100);
        Due.carry(census, 5, 0, 10, 0, 0);
        Due.carry(census, 0, 0, 0, 10, 0);
        Due.carry(census, 0, 0, 0, 10, 0);
        // Its numbers 0 and 1 are those of a building and a floor, not of the units 0 and 1.
        Due.open(census, 0, 0, 1, 1, 0);
        Due.open(census, 5, 1, 10, 0, 0);
        reason(census, 0, "4, 0, 0, 0, 0");
        reason(census, 0, "4, 1, 0, 0, 0");
        reason(census, 0, "2, 0, 1, 0, 0");
        Due.open(census, 2, 0, 1, 0, 0);
        reason(census, 0, "0, 0, 1, 1, 0");
        reason(census, 0, "5, 1, 10, 0, 0");
        reason(census, 0, "5, 0, 10, 0, 0");
        // Building 1 may be told though there is no unit 1 any more.
        census = Due.census(100, 100);
        reason(census, 0, "0, 1, 0, 1, 0");
        reason(census, 0, "5, 1, 10, 0, 0");
    }

    private static void sameUseTwice() {
        Edges.sentence(0, "A permit of the kind 3 may tell the same use twice.");
        Edges.answers(Stands::empty, "apply(3, 0, 1, 4, 4)", 0);
        BuildingCensus census = Due.census(100);
        Due.carry(census, 0, 0, 0, 10, 4);
        reason(census, 0, "3, 0, 10, 4, 4");
        reason(census, 4, "3, 0, 11, 4, 4");
        reason(census, 4, "3, 0, 1, 0, 0");
        Due.is("unit", 1, Due.carry(census, 3, 0, 10, 4, 4));
        Edges.run(census, "unit(0, 4)", 0, "unit(1, 14)", 10, "unit(1, 2)", 10, "parent(1, 0)", 0);
    }

    private static void keepNoReason() {
        Edges.sentence(0, "refuse and permit keep no reason.");
        Edges.run(new BuildingCensus(), "apply(4, 0, 0, 0, 0)", 0, "permit(0, 7)", 1, "reason()", Edges.ELEMENT, "refuse(0)", 1,
                "reason()", Edges.ELEMENT);
        Edges.run(Stands.rich(), "apply(4, 0, 0, 0, 0)", 15, "permit(15, 7)", 1, "reason()", 3, "refuse(15)", 1, "reason()", 3);
    }
}
