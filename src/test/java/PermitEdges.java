/** Sentences on permits, granting and lapsing: promises 9 and 11 to 18. */
final class PermitEdges {
    private PermitEdges() {
    }

    static void all() {
        permits();
        kinds();
        kindsOfUnits();
        promise9();
        promise9Wrong();
        promise11();
        promise12();
        promise13();
        promise14();
        promise15();
        promise16();
        promise16Wrong();
        promise17();
        promise18();
        lapsing();
    }

    private static void permits() {
        Edges.sentence(0, "Permits. At most 40 permits can be applied for, numbered from 0.");
        Edges.answers(Stands::empty, "apply(4, 0, 0, 0, 0)", 0);
        Edges.answers(() -> Stands.permits(39), "apply(4, 0, 0, 0, 0)", 39);
        Edges.leaves(Stands::fortyPermits, "apply(4, 0, 0, 0, 0)", Edges.STATE);
        Edges.run(Stands.fortyPermits(), "total(4)", 40, "permit(39, 3)", 40, "permit(40, 0)", Edges.INDEX);
        // The permits that are over count, too.
        BuildingCensus over = Stands.fortyPermits();
        for (int permit = 0; permit < 40; permit++) {
            over.withdraw(permit);
        }
        Edges.run(over, "apply(4, 0, 0, 0, 0)", Edges.STATE, "total(5)", 0);
        Edges.sentence(0, "A permit has a kind, up to four numbers, and a stage: 0 applied, 1 granted, 2 begun, 3 finished, "
                + "4 refused, 5 lapsed, 6 withdrawn.");
        for (int stage = 0; stage <= 6; stage++) {
            Edges.answers(Stands::stages, "permit(" + stage + ", 5)", stage);
        }
        Edges.sentence(0, "Permits that are granted or begun are open.");
        Edges.answers(Stands::stages, "total(5)", 2);
        BuildingCensus census = Stands.oneBuilding();
        Edges.run(census, "apply(0, 0, 0, 5, 0)", 0, "total(5)", 0, "grant(0)", 1, "total(5)", 1, "begin(0)", 0,
                "total(5)", 1, "finish(0)", 0, "total(5)", 0, "total(6)", 1);
        Edges.run(Stands.stages(), "withdraw(1)", 1, "total(5)", 1, "withdraw(2)", 2, "total(5)", 0, "refuse(0)", 0,
                "total(5)", 0);
    }

    private static void kinds() {
        Edges.sentence(0, "What a permit of each kind does when it is finished:");
        // Nothing is done before it is finished.
        Edges.run(Stands.oneBuilding(), "apply(5, 0, 10, 0, 0)", 0, "grant(0)", 1, "begin(0)", 0, "building(0, 0)", 1,
                "finish(0)", 1, "building(0, 0)", 2);
        Edges.run(Stands.oneBuilding(), "apply(0, 0, 0, 100, 0)", 0, "grant(0)", 1, "begin(0)", 0, "total(2)", 0,
                "floor(0, 0, 1)", 100, "finish(0)", 0, "total(2)", 1, "floor(0, 0, 1)", 0);
        Edges.sentence(0, "kind 0, with a building, a floor, an area and a use: a unit comes on this floor, with this area of "
                + "this use;");
        BuildingCensus census = Stands.sixFloors();
        Due.is("unit", 0, Due.carry(census, 0, 0, 5, 15, 4));
        Due.is("unit", 1, Due.carry(census, 0, 1, 0, 1, 0));
        Edges.run(census, "unit(0, 0)", 0, "unit(0, 1)", 5, "unit(0, 2)", 15, "unit(0, 10)", 0, "unit(0, 13)", 0,
                "unit(0, 14)", 15, "unit(1, 0)", 1, "unit(1, 1)", 0, "unit(1, 10)", 1, "unit(1, 14)", 0, "unit(1, 2)", 1);
        Edges.sentence(0, "kind 5, with a building and an area: a floor with this area is added to the building.");
        Edges.run(census, "building(0, 0)", 6, "floor(0, 5, 0)", 15, "building(1, 0)", 1);
        Due.is("floor", 1, Due.carry(census, 5, 1, 10, 0, 0));
        Due.is("floor", 2, Due.carry(census, 5, 1, 999, 0, 0));
        Edges.run(census, "building(0, 0)", 6, "building(1, 0)", 3, "floor(1, 1, 0)", 10, "floor(1, 2, 0)", 999,
                "building(1, 1)", 1109);
        Edges.sentence(0, "Numbers that a kind does not have are 0.");
        census = Stands.empty();
        Edges.run(census, "apply(1, 9, 9, 0, 0)", 0, "permit(0, 3)", 0, "permit(0, 4)", 0, "apply(4, 9, 0, 0, 0)", 1,
                "permit(1, 2)", 0, "permit(1, 3)", 0, "permit(1, 4)", 0);
        for (String wrong : new String[] {"1, 9, 9, 1, 0", "1, 9, 9, 0, 1", "1, 9, 9, -1, 0", "2, 9, 9, 1, 0", "2, 9, 9, 0, 1",
            "4, 9, 1, 0, 0", "4, 9, -1, 0, 0", "4, 9, 0, 1, 0", "4, 9, 0, 0, 1", "5, 9, 10, 1, 0", "5, 9, 10, 0, 1",
            "5, 9, 10, 0, -1"}) {
            Edges.leaves(Stands::empty, "apply(" + wrong + ")", Edges.ARGUMENT);
        }
    }

    private static void kindsOfUnits() {
        Edges.sentence(0, "kind 2, with two units: they are joined: both end, and one unit comes on their floor, which has the "
                + "sum of both areas of each use;");
        BuildingCensus census = Due.census(10, 999);
        Due.carry(census, 0, 1, 0, 998, 0);
        Due.carry(census, 0, 1, 0, 1, 4);
        Due.is("joined", 2, Due.carry(census, 2, 1, 0, 0, 0));
        Edges.run(census, "unit(0, 4)", 0, "unit(1, 4)", 0, "unit(2, 4)", -1, "unit(2, 0)", 1, "unit(2, 1)", 0,
                "unit(2, 2)", 999, "unit(2, 10)", 998, "unit(2, 11)", 0, "unit(2, 14)", 1, "total(2)", 3, "total(3)", 1,
                "floor(1, 0, 1)", 0);
        Edges.sentence(0, "kind 3, with a unit, an area and two uses: this area of the first use becomes one of the second "
                + "use: the unit ends, and a unit comes that is like it, apart from that;");
        Due.is("changed", 3, Due.carry(census, 3, 2, 998, 0, 4));
        Edges.run(census, "unit(2, 4)", 0, "unit(2, 10)", 998, "unit(3, 0)", 1, "unit(3, 1)", 0, "unit(3, 10)", 0,
                "unit(3, 14)", 999, "unit(3, 2)", 999);
        Due.is("changed", 4, Due.carry(census, 3, 3, 1, 4, 2));
        Edges.run(census, "unit(4, 12)", 1, "unit(4, 14)", 998, "unit(4, 11)", 0, "unit(4, 13)", 0);
        Edges.sentence(0, "kind 4, with a unit: it ends;");
        Due.is("ended", -1, Due.carry(census, 4, 4, 0, 0, 0));
        Edges.run(census, "unit(4, 4)", 0, "total(2)", 5, "total(3)", 0, "floor(1, 0, 1)", 999);
        Edges.sentence(0, "Units that come by a permit come on the day on which it is finished, and units that end by it end on "
                + "this day.");
        census = Stands.oneBuilding();
        Edges.run(census, "apply(0, 0, 0, 9, 0)", 0, "pass(1)", 0, "grant(0)", 1, "pass(2)", 0, "begin(0)", 2, "pass(99)", 0,
                "finish(0)", 0, "pass(1)", 0, "unit(0, 3)", 102, "unit(0, 4)", -1, "apply(1, 0, 4, 0, 0)", 1, "grant(1)", 1,
                "begin(1)", 0, "pass(5)", 0, "unit(0, 4)", -1, "finish(1)", 1, "pass(1)", 0, "unit(0, 4)", 108,
                "unit(1, 3)", 108, "unit(2, 3)", 108);
    }

    private static void promise9() {
        Edges.sentence(9, "Applies for a permit.");
        Edges.run(Stands.atDay(9), "apply(4, 0, 0, 0, 0)", 1, "total(4)", 2, "total(5)", 0, "permit(1, 5)", 0,
                "permit(1, 6)", 9);
        // What it tells need not be there.
        Edges.run(new BuildingCensus(), "apply(0, 9, 9, 999, 4)", 0, "apply(2, 999, 999, 0, 0)", 1, "apply(5, 9, 999, 0, 0)", 2);
        Edges.sentence(9, "`kind`: the kind, 0 to 5");
        Edges.answers(Stands::empty, "apply(0, 0, 0, 1, 0)", 0);
        Edges.answers(Stands::empty, "apply(5, 0, 10, 0, 0)", 0);
        Edges.leaves(Stands::empty, "apply(-1, 0, 0, 1, 0)", Edges.ARGUMENT);
        Edges.leaves(Stands::empty, "apply(6, 0, 10, 0, 0)", Edges.ARGUMENT);
        Edges.leaves(Stands::empty, "apply(6, 0, 0, 0, 0)", Edges.ARGUMENT);
        Edges.sentence(9, "`one`: the first number: 0 to 9 for a building, 0 to 999 for a unit");
        ends("apply(0, ", 0, 9, ", 0, 1, 0)");
        ends("apply(5, ", 0, 9, ", 10, 0, 0)");
        ends("apply(1, ", 0, 999, ", 1, 0, 0)");
        ends("apply(2, ", 0, 999, ", 0, 0, 0)");
        ends("apply(3, ", 0, 999, ", 1, 0, 0)");
        ends("apply(4, ", 0, 999, ", 0, 0, 0)");
        Edges.sentence(9, "`two`: the second number: 0 to 9 for a floor, 0 to 999 for a unit, 1 to 999 for an area, 10 to 999 "
                + "for that of a floor");
        ends("apply(0, 0, ", 0, 9, ", 1, 0)");
        ends("apply(2, 0, ", 0, 999, ", 0, 0)");
        ends("apply(1, 0, ", 1, 999, ", 0, 0)");
        ends("apply(3, 0, ", 1, 999, ", 0, 0)");
        ends("apply(5, 0, ", 10, 999, ", 0, 0)");
        ends("apply(4, 0, ", 0, 0, ", 0, 0)");
        Edges.sentence(9, "`three`: the third number: 1 to 999 for an area, 0 to 4 for a use");
        ends("apply(0, 0, 0, ", 1, 999, ", 0)");
        ends("apply(3, 0, 1, ", 0, 4, ", 0)");
        ends("apply(1, 0, 1, ", 0, 0, ", 0)");
        ends("apply(2, 0, 0, ", 0, 0, ", 0)");
        ends("apply(4, 0, 0, ", 0, 0, ", 0)");
        ends("apply(5, 0, 10, ", 0, 0, ", 0)");
        Edges.sentence(9, "`four`: the fourth number: 0 to 4 for a use");
        ends("apply(0, 0, 0, 1, ", 0, 4, ")");
        ends("apply(3, 0, 1, 0, ", 0, 4, ")");
        ends("apply(1, 0, 1, 0, ", 0, 0, ")");
        ends("apply(2, 0, 0, 0, ", 0, 0, ")");
        ends("apply(4, 0, 0, 0, ", 0, 0, ")");
        ends("apply(5, 0, 10, 0, ", 0, 0, ")");
    }

    /** The call answers at both ends of a range, and is refused next to them and far from them. */
    private static void ends(String before, int lowest, int highest, String after) {
        Edges.answers(Stands::empty, before + lowest + after, 0);
        Edges.answers(Stands::empty, before + highest + after, 0);
        for (int wrong : new int[] {lowest - 1, highest + 1, Integer.MIN_VALUE, Integer.MAX_VALUE}) {
            Edges.answers(Stands::empty, before + wrong + after, Edges.ARGUMENT);
            Edges.leaves(Stands::rich, before + wrong + after, Edges.ARGUMENT);
        }
    }

    private static void promise9Wrong() {
        Edges.sentence(9, "Returns the number of the permit.");
        Edges.answers(Stands::rich, "apply(4, 0, 0, 0, 0)", 15);
        Edges.run(Stands.permits(39), "undo()", 7, "apply(4, 0, 0, 0, 0)", 38, "apply(4, 0, 0, 0, 0)", 39);
        Edges.sentence(9, "Throws `IllegalArgumentException` if the kind or a number is out of range, or a number that the kind "
                + "does not have is not 0");
        for (int kind : new int[] {-1, 6, 7, Integer.MIN_VALUE, Integer.MAX_VALUE}) {
            Edges.leaves(Stands::rich, "apply(" + kind + ", 1, 10, 0, 0)", Edges.ARGUMENT);
            Edges.answers(Stands::fortyPermits, "apply(" + kind + ", 1, 10, 0, 0)", Edges.ARGUMENT);
        }
        Edges.leaves(Stands::fortyPermits, "apply(0, 10, 0, 1, 0)", Edges.ARGUMENT);
        Edges.leaves(Stands::rich, "apply(4, 5, 0, 0, 1)", Edges.ARGUMENT);
        Edges.sentence(9, "Throws `IllegalStateException` if there are 40 permits");
        Edges.answers(() -> Stands.permits(39), "apply(0, 0, 0, 1, 0)", 39);
        Edges.leaves(Stands::fortyPermits, "apply(0, 0, 0, 1, 0)", Edges.STATE);
        Edges.leaves(Stands::fortyPermits, "apply(5, 9, 999, 0, 0)", Edges.STATE);
    }

    private static void promise11() {
        Edges.sentence(11, "Grants a permit.");
        Edges.run(Stands.rich(), "pass(3)", 0, "grant(14)", 3, "permit(14, 5)", 1, "permit(14, 6)", 36, "total(5)", 3);
        Edges.sentence(11, "`permit`: the permit");
        Edges.answers(() -> Stands.permits(1), "grant(0)", 1);
        Edges.answers(Stands::fortyPermits, "grant(39)", 1);
        Edges.sentence(11, "Returns the number of open permits.");
        Edges.answers(Stands::rich, "grant(14)", 3);
        Edges.answers(Stands::stages, "grant(0)", 3);
        Edges.sentence(11, "Throws `IndexOutOfBoundsException` if there is no such permit");
        noSuchPermit("grant(", ")");
        Edges.sentence(11, "Throws `UnsupportedOperationException` if its stage is not 0");
        for (int stage = 1; stage <= 6; stage++) {
            Edges.leaves(Stands::stages, "grant(" + stage + ")", Edges.STAGE);
        }
        Edges.answers(Stands::stages, "grant(0)", 3);
        Edges.sentence(11, "Throws `IllegalStateException` if this is refused; the reason is kept");
        Edges.leaves(Stands::rich, "grant(13)", Edges.STATE);
        Edges.leaves(() -> {
            BuildingCensus census = Stands.rich();
            census.apply(4, 6, 0, 0, 0);
            return census;
        }, "grant(15)", Edges.STATE, () -> {
            BuildingCensus census = Stands.rich();
            census.apply(4, 6, 0, 0, 0);
            return census;
        }, "reason()", "2");
    }

    /** The calls for permits that there are not, of which the first ones are next to those that there are. */
    private static void noSuchPermit(String before, String after) {
        for (int permit : new int[] {-1, 15, 40, Integer.MIN_VALUE, Integer.MAX_VALUE}) {
            Edges.leaves(Stands::rich, before + permit + after, Edges.INDEX);
        }
        Edges.leaves(Stands::empty, before + 0 + after, Edges.INDEX);
        Edges.leaves(Stands::fortyPermits, before + 40 + after, Edges.INDEX);
    }

    private static void promise12() {
        Edges.sentence(12, "Refuses a permit; its stage becomes 4.");
        Edges.run(Stands.rich(), "pass(2)", 0, "refuse(14)", 0, "permit(14, 5)", 4, "permit(14, 6)", 35, "total(5)", 2);
        Edges.sentence(12, "`permit`: the permit");
        Edges.answers(() -> Stands.permits(1), "refuse(0)", 0);
        Edges.answers(Stands::fortyPermits, "refuse(39)", 0);
        Edges.sentence(12, "Returns the reason for which it could not be granted now, 0 if it could.");
        Edges.answers(Stands::rich, "refuse(13)", 3);
        Edges.answers(Stands::rich, "refuse(14)", 0);
        BuildingCensus census = Stands.rich();
        Edges.run(census, "apply(4, 0, 0, 0, 0)", 15, "refuse(15)", 1, "apply(4, 6, 0, 0, 0)", 16, "refuse(16)", 2,
                "apply(1, 5, 7, 0, 0)", 17, "refuse(17)", 4);
        Edges.run(Stands.sixtyUnits(), "apply(0, 0, 0, 1, 0)", 31, "refuse(31)", 5, "reason()", Edges.ELEMENT);
        Edges.sentence(12, "Throws `IndexOutOfBoundsException` if there is no such permit");
        noSuchPermit("refuse(", ")");
        Edges.sentence(12, "Throws `UnsupportedOperationException` if its stage is not 0");
        for (int stage = 1; stage <= 6; stage++) {
            Edges.leaves(Stands::stages, "refuse(" + stage + ")", Edges.STAGE);
        }
        Edges.answers(Stands::stages, "refuse(0)", 0);
    }

    private static void promise13() {
        Edges.sentence(13, "Begins with a permit; its stage becomes 2.");
        Edges.run(Stands.rich(), "pass(1)", 0, "begin(11)", 1, "permit(11, 5)", 2, "permit(11, 6)", 34, "total(5)", 2);
        Edges.sentence(13, "`permit`: the permit");
        Edges.run(Stands.fortyPermits(), "grant(39)", 1, "grant(0)", 2, "begin(39)", 0, "begin(0)", 0, "permit(38, 5)", 0);
        Edges.sentence(13, "Returns the number of days since it was granted.");
        Edges.run(Stands.permits(1), "pass(50)", 0, "grant(0)", 1, "begin(0)", 0);
        Edges.run(Stands.permits(1), "pass(50)", 0, "grant(0)", 1, "pass(1)", 0, "begin(0)", 1);
        Edges.run(Stands.permits(1), "pass(50)", 0, "grant(0)", 1, "pass(30)", 0, "begin(0)", 30);
        Edges.run(Stands.permits(1), "pass(50)", 0, "grant(0)", 1, "pass(31)", 1, "begin(0)", Edges.STAGE);
        Edges.sentence(13, "Throws `IndexOutOfBoundsException` if there is no such permit");
        noSuchPermit("begin(", ")");
        Edges.sentence(13, "Throws `UnsupportedOperationException` if its stage is not 1");
        for (int stage : new int[] {0, 2, 3, 4, 5, 6}) {
            Edges.leaves(Stands::stages, "begin(" + stage + ")", Edges.STAGE);
        }
        Edges.answers(Stands::stages, "begin(1)", 0);
    }

    private static void promise14() {
        Edges.sentence(14, "Finishes a permit; its stage becomes 3, and what it does is done.");
        Edges.run(Stands.rich(), "pass(99)", 1, "finish(12)", 7, "permit(12, 5)", 3, "permit(12, 6)", 132, "total(2)", 9,
                "unit(6, 4)", 132, "unit(7, 2)", 9, "unit(8, 2)", 31, "total(5)", 0, "total(6)", 9);
        Edges.sentence(14, "`permit`: the permit");
        Edges.run(Stands.fortyPermits(), "grant(39)", 1, "grant(0)", 2, "begin(39)", 0, "begin(0)", 0, "finish(39)", 0,
                "unit(0, 2)", 40, "finish(0)", 1, "unit(1, 2)", 1);
        Edges.sentence(14, "Returns the number of the first unit that came by it; the number of the floor that was added; -1 for "
                + "the kind 4.");
        BuildingCensus census = Due.census(100, 100);
        Due.is("kind 0", 0, Due.carry(census, 0, 0, 0, 10, 0));
        Due.is("kind 0", 1, Due.carry(census, 0, 0, 0, 10, 0));
        Due.is("kind 1", 2, Due.carry(census, 1, 1, 1, 0, 0));
        Due.is("kind 2", 4, Due.carry(census, 2, 3, 2, 0, 0));
        Due.is("kind 3", 5, Due.carry(census, 3, 0, 1, 0, 0));
        Due.is("kind 4", -1, Due.carry(census, 4, 5, 0, 0, 0));
        Due.is("kind 5", 1, Due.carry(census, 5, 0, 10, 0, 0));
        Due.is("kind 5", 1, Due.carry(census, 5, 1, 10, 0, 0));
        Due.is("kind 5", 2, Due.carry(census, 5, 0, 10, 0, 0));
        Due.is("the sixth floor", 5, Due.carry(floors(5), 5, 0, 10, 0, 0));
        Due.is("the sixtieth unit", 59, Due.carry(Stands.units(59), 0, 0, 0, 1, 0));
        Due.is("the last two units", 57, Due.carry(Stands.units(57), 1, 56, 1, 0, 0));
        Edges.sentence(14, "Throws `IndexOutOfBoundsException` if there is no such permit");
        noSuchPermit("finish(", ")");
        Edges.sentence(14, "Throws `UnsupportedOperationException` if its stage is not 2");
        for (int stage : new int[] {0, 1, 3, 4, 5, 6}) {
            Edges.leaves(Stands::stages, "finish(" + stage + ")", Edges.STAGE);
        }
        Edges.answers(Stands::stages, "finish(2)", 1);
    }

    /** A building with so many floors. */
    static BuildingCensus floors(int floors) {
        BuildingCensus census = Due.census(100, 100);
        for (int i = 1; i < floors; i++) {
            Due.carry(census, 5, 0, 10, 0, 0);
        }
        return census;
    }

    private static void promise15() {
        Edges.sentence(15, "Withdraws a permit; its stage becomes 6.");
        for (int permit : new int[] {11, 12, 14}) {
            Edges.run(Stands.rich(), "withdraw(" + permit + ")", new int[] {1, 2, 0, 0}[permit - 11],
                    "permit(" + permit + ", 5)", 6, "permit(" + permit + ", 6)", 33, "total(2)", 7, "total(6)", 8);
        }
        Edges.run(Stands.rich(), "floor(0, 0, 3)", 50, "withdraw(11)", 1, "floor(0, 0, 3)", 60, "total(5)", 1);
        Edges.sentence(15, "`permit`: the permit");
        Edges.answers(() -> Stands.permits(1), "withdraw(0)", 0);
        Edges.answers(Stands::fortyPermits, "withdraw(39)", 0);
        Edges.sentence(15, "Returns the stage that it had.");
        for (int stage = 0; stage <= 2; stage++) {
            Edges.answers(Stands::stages, "withdraw(" + stage + ")", stage);
        }
        Edges.sentence(15, "Throws `IndexOutOfBoundsException` if there is no such permit");
        noSuchPermit("withdraw(", ")");
        Edges.sentence(15, "Throws `UnsupportedOperationException` if its stage is above 2");
        for (int stage = 3; stage <= 6; stage++) {
            Edges.leaves(Stands::stages, "withdraw(" + stage + ")", Edges.STAGE);
        }
    }

    private static void promise16() {
        Edges.sentence(16, "Returns a number of a permit.");
        Edges.leaves(Stands::rich, "permit(14, 0)", 4);
        Edges.sentence(16, "`permit`: the permit");
        Edges.answers(Stands::fortyPermits, "permit(0, 3)", 1);
        Edges.answers(Stands::fortyPermits, "permit(39, 3)", 40);
        Edges.sentence(16, "`what`: 0 for its kind, 1 to 4 for its numbers, 5 for its stage, 6 for the day on which it got this "
                + "stage, 7 for the reason for which it could not be granted now, 0 if it could or its stage is not 0");
        Edges.run(Stands.rich(), "permit(10, 0)", 3, "permit(10, 1)", 4, "permit(10, 2)", 5, "permit(10, 3)", 0,
                "permit(10, 4)", 3, "permit(10, 5)", 3, "permit(10, 6)", 33, "permit(10, 7)", 0, "permit(8, 5)", 5,
                "permit(8, 6)", 33, "permit(6, 6)", 2, "permit(13, 7)", 3, "permit(14, 7)", 0);
        // None of the stages but 0 has a reason, though each of these permits tells a unit that is not there any more.
        BuildingCensus census = Stands.oneBuilding();
        Due.carry(census, 0, 0, 0, 10, 0);
        Edges.run(census, "apply(4, 0, 0, 0, 0)", 1, "apply(4, 0, 0, 0, 0)", 2, "apply(4, 0, 0, 0, 0)", 3,
                "apply(4, 0, 0, 0, 0)", 4, "grant(1)", 1, "permit(1, 7)", 0, "permit(2, 7)", 2, "begin(1)", 0, "permit(1, 7)", 0,
                "permit(2, 7)", 2, "finish(1)", -1, "permit(1, 7)", 0, "permit(2, 7)", 1, "refuse(2)", 1, "permit(2, 7)", 0,
                "withdraw(3)", 0, "permit(3, 7)", 0, "permit(4, 7)", 1);
        Edges.sentence(16, "Returns the number.");
        Edges.run(Stands.rich(), "permit(11, 0)", 0, "permit(11, 1)", 0, "permit(11, 2)", 0, "permit(11, 3)", 10,
                "permit(11, 4)", 2, "permit(11, 5)", 1, "permit(11, 6)", 33, "permit(11, 7)", 0);
    }

    private static void promise16Wrong() {
        Edges.sentence(16, "Throws `IndexOutOfBoundsException` if there is no such permit");
        noSuchPermit("permit(", ", 0)");
        noSuchPermit("permit(", ", 7)");
        noSuchPermit("permit(", ", 8)");
        Edges.sentence(16, "Throws `IllegalArgumentException` if what is out of range");
        for (int what : new int[] {-1, 8, Integer.MIN_VALUE, Integer.MAX_VALUE}) {
            Edges.leaves(Stands::rich, "permit(14, " + what + ")", Edges.ARGUMENT);
        }
    }

    private static void promise17() {
        Edges.sentence(17, "Returns the reason for which a permit was not granted last.");
        Edges.leaves(Stands::rich, "reason()", 3);
        Edges.run(Stands.rich(), "apply(4, 0, 0, 0, 0)", 15, "grant(15)", Edges.STATE, "reason()", 1, "grant(13)", Edges.STATE,
                "reason()", 3, "grant(14)", 3, "reason()", 3, "grant(14)", Edges.STAGE, "grant(99)", Edges.INDEX, "reason()", 3);
        Edges.sentence(17, "Returns the reason, 1 to 5.");
        Edges.run(Stands.rich(), "apply(4, 0, 0, 0, 0)", 15, "grant(15)", Edges.STATE, "reason()", 1,
                "apply(4, 6, 0, 0, 0)", 16, "grant(16)", Edges.STATE, "reason()", 2, "grant(13)", Edges.STATE, "reason()", 3,
                "apply(1, 5, 7, 0, 0)", 17, "grant(17)", Edges.STATE, "reason()", 4);
        Edges.run(Stands.sixFloors(), "apply(5, 0, 10, 0, 0)", 5, "grant(5)", Edges.STATE, "reason()", 5);
        Edges.sentence(17, "Throws `NoSuchElementException` if there was none");
        Edges.leaves(Stands::empty, "reason()", Edges.ELEMENT);
        Edges.leaves(Stands::stages, "reason()", Edges.ELEMENT);
        Edges.run(new BuildingCensus(), "apply(4, 0, 0, 0, 0)", 0, "refuse(0)", 1, "reason()", Edges.ELEMENT);
    }

    private static void promise18() {
        Edges.sentence(18, "Lets days pass.");
        Edges.run(Stands.rich(), "pass(1)", 0, "total(0)", 34, "pass(99)", 1, "total(0)", 133);
        Edges.sentence(18, "`days`: the number of days, 1 to 99");
        Edges.run(new BuildingCensus(), "pass(1)", 0, "total(0)", 1);
        Edges.run(new BuildingCensus(), "pass(99)", 0, "total(0)", 99);
        Edges.sentence(18, "Returns the number of permits that lapsed.");
        Edges.run(Stands.permits(3), "grant(0)", 1, "grant(1)", 2, "grant(2)", 3, "begin(2)", 0, "pass(30)", 0, "pass(1)", 2,
                "pass(99)", 0, "permit(2, 5)", 2);
        BuildingCensus all = Due.census(999);
        for (int permit = 0; permit < 40; permit++) {
            Due.open(all, 0, 0, 0, 1, 0);
        }
        Edges.run(all, "total(5)", 40, "pass(31)", 40, "total(5)", 0, "permit(39, 5)", 5);
        Edges.sentence(18, "Throws `IllegalArgumentException` if the number is out of range");
        for (int days : new int[] {0, -1, 100, Integer.MIN_VALUE, Integer.MAX_VALUE}) {
            Edges.leaves(Stands::rich, "pass(" + days + ")", Edges.ARGUMENT);
            Edges.answers(Stands::lastDay, "pass(" + days + ")", Edges.ARGUMENT);
        }
        Edges.sentence(18, "Throws `IllegalStateException` if the present day would be above 9999");
        Edges.run(Stands.atDay(9900), "pass(99)", 0, "total(0)", 9999);
        Edges.run(Stands.atDay(9998), "pass(1)", 0, "total(0)", 9999);
        Edges.leaves(() -> Stands.atDay(9901), "pass(99)", Edges.STATE);
        Edges.leaves(() -> Stands.atDay(9998), "pass(2)", Edges.STATE);
        Edges.leaves(Stands::lastDay, "pass(1)", Edges.STATE);
        Edges.leaves(Stands::lastDay, "pass(99)", Edges.STATE);
    }

    private static void lapsing() {
        Edges.sentence(0, "Lapsing. When a day passes, the present day is 1 more; then all permits that are granted and were "
                + "granted more than 30 days ago lapse.");
        for (int granted : new int[] {0, 7}) {
            BuildingCensus census = Stands.permits(3);
            for (int i = 0; i < granted; i++) {
                census.pass(1);
            }
            // 0 is applied, 1 granted, 2 begun.
            Edges.run(census, "grant(1)", 1, "grant(2)", 2, "begin(2)", 0);
            for (int day = 1; day <= 30; day++) {
                Edges.run(census, "pass(1)", 0, "total(0)", granted + day, "permit(1, 5)", 1);
            }
            Edges.run(census, "pass(1)", 1, "permit(1, 5)", 5, "permit(1, 6)", granted + 31, "permit(0, 5)", 0,
                    "permit(2, 5)", 2, "permit(0, 6)", 0, "permit(2, 6)", granted, "total(5)", 1);
        }
        // The days of one call pass one after the other.
        Edges.run(Stands.permits(2), "grant(0)", 1, "pass(10)", 0, "grant(1)", 2, "pass(99)", 2, "permit(0, 6)", 31,
                "permit(1, 6)", 41, "total(0)", 109);
        Edges.run(Stands.atDay(9968), "apply(0, 0, 0, 1, 0)", 1, "grant(1)", 1, "pass(31)", 1, "permit(1, 6)", 9999);
        Edges.run(Stands.atDay(9969), "apply(0, 0, 0, 1, 0)", 1, "grant(1)", 1, "pass(30)", 0, "permit(1, 5)", 1);
    }
}
