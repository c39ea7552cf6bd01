/** Sentences on splitting and lineage: promises 6 to 8. */
final class LineEdges {
    private LineEdges() {
    }

    static void all() {
        splittingRoundsDown();
        splittingAtTheEnds();
        splittingSecondPart();
        lineage();
        generations();
        promise6();
        promise7();
        promise8();
    }

    /** A unit, the last one, with these areas of the uses. */
    private static BuildingCensus unitOf(int... areas) {
        BuildingCensus census = Due.census(999);
        int sum = 0;
        for (int area : areas) {
            sum += area;
        }
        Due.carry(census, 0, 0, 0, sum, 0);
        for (int use = 1; use < areas.length; use++) {
            if (areas[use] > 0) {
                Due.carry(census, 3, census.total(2) - 1, areas[use], 0, use);
            }
        }
        return census;
    }

    /** Splits the last unit, and looks at the areas of both parts. */
    private static void split(BuildingCensus census, int area, int[] first, int[] second) {
        int unit = census.total(2) - 1;
        int part = Due.carry(census, 1, unit, area, 0, 0);
        Due.is("first part's number", unit + 1, part);
        Due.is("first part's area", area, census.unit(part, 2));
        for (int use = 0; use < 5; use++) {
            Due.is("split off " + area + ", first part, use " + use, first[use], census.unit(part, 10 + use));
            Due.is("split off " + area + ", second part, use " + use, second[use], census.unit(part + 1, 10 + use));
        }
    }

    private static int[] of(int... areas) {
        return areas;
    }

    private static void splittingRoundsDown() {
        Edges.sentence(0, "Splitting. When a unit with the area A is split, and the first part gets the area a, this part gets "
                + "of each use the area of this use times a, divided by A and rounded down;");
        // Nothing is rounded: 10 * 3 / 30, 20 * 3 / 30.
        split(unitOf(10, 0, 0, 0, 20), 3, of(1, 0, 0, 0, 2), of(9, 0, 0, 0, 18));
        // 333 * 998 / 999 = 332 rest 666 for each of three: one short of the whole.
        split(unitOf(333, 333, 333, 0, 0), 998, of(333, 333, 332, 0, 0), of(0, 0, 1, 0, 0));
        Edges.sentence(0, "then, as long as these areas are less than a together, 1 more of the use with the greatest "
                + "remainder of this division, each use once at most, of several of these the one with the lowest number.");
        // 3 * 1 / 10 = 0 rest 3 for three uses, rest 1 for one: the lowest number of the three gets it.
        split(unitOf(3, 3, 1, 3, 0), 1, of(1, 0, 0, 0, 0), of(2, 3, 1, 3, 0));
        // 1 * 5 / 11 rest 5; 3 * 5 / 11 = 1 rest 4; 7 * 5 / 11 = 3 rest 2: the smallest area has the greatest rest.
        split(unitOf(7, 3, 1, 0, 0), 5, of(3, 1, 1, 0, 0), of(4, 2, 0, 0, 0));
        // The same with the greatest rest at the highest number.
        split(unitOf(7, 0, 3, 0, 1), 5, of(3, 0, 1, 0, 1), of(4, 0, 2, 0, 0));
        // 1 * 4 / 5 rest 4 for each of five: four get 1, the fifth none.
        split(unitOf(1, 1, 1, 1, 1), 4, of(1, 1, 1, 1, 0), of(0, 0, 0, 0, 1));
        // 6, 2 and 2 of 10, a 9: 5 rest 4, 1 rest 8, 1 rest 8: the two missing go to the uses with the rests, once each.
        split(unitOf(6, 2, 2, 0, 0), 9, of(5, 2, 2, 0, 0), of(1, 0, 0, 0, 0));
        // 1, 2 and 2 of 5, a 3: 0 rest 3, 1 rest 1, 1 rest 1: a greater rest goes before a lower number.
        split(unitOf(2, 2, 1, 0, 0), 3, of(1, 1, 1, 0, 0), of(1, 1, 0, 0, 0));
    }

    private static void splittingAtTheEnds() {
        Edges.sentence(0, "kind 1, with a unit and an area: the unit is split: it ends, and two units come on its floor, the "
                + "first one with this area, the second one with the rest;");
        split(unitOf(0, 0, 2, 0, 0), 1, of(0, 0, 1, 0, 0), of(0, 0, 1, 0, 0));
        split(unitOf(999, 0, 0, 0, 0), 1, of(1, 0, 0, 0, 0), of(998, 0, 0, 0, 0));
        split(unitOf(999, 0, 0, 0, 0), 998, of(998, 0, 0, 0, 0), of(1, 0, 0, 0, 0));
        split(unitOf(1, 1, 1, 1, 995), 1, of(0, 0, 0, 0, 1), of(1, 1, 1, 1, 994));
        BuildingCensus census = Due.census(10, 20);
        Due.carry(census, 5, 1, 30, 0, 0);
        Due.carry(census, 0, 1, 1, 9, 3);
        Due.carry(census, 1, 0, 4, 0, 0);
        Edges.run(census, "total(2)", 3, "unit(0, 4)", 0, "unit(1, 0)", 1, "unit(1, 1)", 1, "unit(1, 2)", 4, "unit(1, 4)", -1,
                "unit(2, 0)", 1, "unit(2, 1)", 1, "unit(2, 2)", 5, "unit(2, 4)", -1);
    }

    private static void splittingSecondPart() {
        Edges.sentence(0, "The second part gets what the first one does not get.");
        // 0 rest 7, 0 rest 14, 1 rest 6, 1 rest 13, 2 rest 5 of 15: three are missing.
        split(unitOf(1, 2, 3, 4, 5), 7, of(1, 1, 1, 2, 2), of(0, 1, 2, 2, 3));
        split(unitOf(1, 0, 0, 0, 1), 1, of(1, 0, 0, 0, 0), of(0, 0, 0, 0, 1));
    }

    private static void lineage() {
        Edges.sentence(0, "Lineage. The parents of a unit are the units that ended by the permit by which it came, if that is "
                + "of the kind 1, 2 or 3.");
        BuildingCensus census = Due.census(100);
        Due.carry(census, 0, 0, 0, 40, 0);
        Edges.run(census, "unit(0, 6)", 0, "parent(0, 0)", Edges.ELEMENT);
        Due.carry(census, 1, 0, 10, 0, 0);
        Edges.run(census, "unit(1, 6)", 1, "parent(1, 0)", 0, "unit(2, 6)", 1, "parent(2, 0)", 0, "parent(2, 1)", Edges.ELEMENT);
        Due.carry(census, 2, 2, 1, 0, 0);
        Edges.run(census, "unit(3, 6)", 2, "parent(3, 0)", 1, "parent(3, 1)", 2, "parent(3, 2)", Edges.ELEMENT);
        Due.carry(census, 3, 3, 1, 0, 0);
        Edges.run(census, "unit(4, 6)", 1, "parent(4, 0)", 3, "parent(4, 1)", Edges.ELEMENT);
        // By its number 0 the permit of the kind 0 tells a building, and no unit 0.
        Due.carry(census, 0, 0, 0, 5, 0);
        Edges.run(census, "unit(5, 6)", 0, "parent(5, 0)", Edges.ELEMENT, "isAncestor(0, 5)", false);
        Edges.sentence(0, "An ancestor of a unit is a parent of it, or an ancestor of one of its parents.");
        Edges.run(census, "isAncestor(3, 4)", true, "isAncestor(2, 4)", true, "isAncestor(1, 4)", true,
                "isAncestor(0, 4)", true, "isAncestor(4, 4)", false, "isAncestor(1, 2)", false, "isAncestor(4, 3)", false);
    }

    private static void generations() {
        Edges.sentence(0, "The generation of a unit is 0 if it has no parents, and otherwise 1 more than the greatest "
                + "generation of its parents.");
        BuildingCensus census = Due.census(100);
        Due.carry(census, 0, 0, 0, 40, 0);
        Due.carry(census, 0, 0, 0, 10, 0);
        Edges.run(census, "unit(0, 5)", 0, "unit(1, 5)", 0);
        Due.carry(census, 3, 0, 1, 0, 1);
        Due.carry(census, 3, 2, 1, 0, 1);
        Edges.run(census, "unit(2, 5)", 1, "unit(3, 5)", 2);
        // The greater generation is the second number's, then the first one's.
        Due.carry(census, 2, 1, 3, 0, 0);
        Due.carry(census, 0, 0, 0, 10, 0);
        Edges.run(census, "unit(4, 5)", 3, "unit(5, 5)", 0);
        Due.carry(census, 2, 4, 5, 0, 0);
        Edges.run(census, "unit(6, 5)", 4);
        Due.carry(census, 1, 6, 1, 0, 0);
        Due.carry(census, 2, 7, 8, 0, 0);
        Edges.run(census, "unit(7, 5)", 5, "unit(8, 5)", 5, "unit(9, 5)", 6);
        Edges.run(Stands.sixtyUnits(), "unit(58, 5)", 29, "unit(57, 5)", 29, "unit(59, 5)", 0);
    }

    private static void promise6() {
        Edges.sentence(6, "Returns a parent of a unit.");
        Edges.leaves(Stands::rich, "parent(6, 0)", 4);
        Edges.sentence(6, "`unit`: the unit");
        Edges.answers(Stands::rich, "parent(0, 0)", Edges.ELEMENT);
        Edges.answers(() -> Stands.units(59), "parent(58, 0)", 56);
        Edges.sentence(6, "`index`: the index, from 0, in ascending order of the parents");
        Edges.run(Stands.rich(), "parent(4, 0)", 1, "parent(4, 1)", 3, "parent(3, 0)", 0);
        BuildingCensus census = Due.census(100);
        Due.carry(census, 0, 0, 0, 5, 0);
        Due.carry(census, 0, 0, 0, 5, 0);
        Due.carry(census, 2, 1, 0, 0, 0);
        Edges.run(census, "parent(2, 0)", 0, "parent(2, 1)", 1, "permit(2, 1)", 1, "permit(2, 2)", 0);
        Edges.sentence(6, "Returns the parent.");
        Edges.answers(Stands::rich, "parent(2, 0)", 0);
        Edges.sentence(6, "Throws `IndexOutOfBoundsException` if there is no such unit");
        for (int unit : new int[] {-1, 7, 60, Integer.MIN_VALUE, Integer.MAX_VALUE}) {
            Edges.leaves(Stands::rich, "parent(" + unit + ", 0)", Edges.INDEX);
            Edges.answers(Stands::rich, "parent(" + unit + ", 5)", Edges.INDEX);
        }
        Edges.leaves(Stands::empty, "parent(0, 0)", Edges.INDEX);
        Edges.sentence(6, "Throws `NoSuchElementException` if there is no such index");
        for (int index : new int[] {-1, 2, Integer.MIN_VALUE, Integer.MAX_VALUE}) {
            Edges.leaves(Stands::rich, "parent(4, " + index + ")", Edges.ELEMENT);
        }
        Edges.leaves(Stands::rich, "parent(6, 1)", Edges.ELEMENT);
        Edges.leaves(Stands::rich, "parent(5, 0)", Edges.ELEMENT);
    }

    private static void promise7() {
        Edges.sentence(7, "Returns whether a unit is an ancestor of another one.");
        Edges.leaves(Stands::rich, "isAncestor(0, 6)", true);
        Edges.leaves(Stands::rich, "isAncestor(6, 0)", false);
        Edges.sentence(7, "`unit`: the unit");
        Edges.answers(() -> Stands.units(59), "isAncestor(0, 58)", true);
        Edges.answers(() -> Stands.units(59), "isAncestor(56, 58)", true);
        Edges.answers(() -> Stands.units(59), "isAncestor(55, 58)", false);
        Edges.sentence(7, "`other`: the other unit");
        Edges.answers(() -> Stands.units(59), "isAncestor(58, 0)", false);
        Edges.answers(() -> Stands.units(59), "isAncestor(58, 58)", false);
        Edges.answers(() -> Stands.units(59), "isAncestor(0, 0)", false);
        Edges.answers(() -> Stands.units(59), "isAncestor(30, 31)", true);
        Edges.answers(() -> Stands.units(59), "isAncestor(30, 32)", true);
        Edges.answers(Stands::sixtyUnits, "isAncestor(0, 59)", false);
        Edges.answers(Stands::sixtyUnits, "isAncestor(59, 0)", false);
        Edges.sentence(7, "Returns whether the unit is an ancestor of the other one.");
        Edges.run(Stands.rich(), "isAncestor(0, 2)", true, "isAncestor(1, 4)", true, "isAncestor(2, 4)", false,
                "isAncestor(2, 6)", false, "isAncestor(3, 6)", true, "isAncestor(0, 5)", false, "isAncestor(5, 6)", false);
        Edges.sentence(7, "Throws `IndexOutOfBoundsException` if there is no such unit");
        for (int unit : new int[] {-1, 7, 60, 63, 64, Integer.MIN_VALUE, Integer.MAX_VALUE}) {
            Edges.leaves(Stands::rich, "isAncestor(" + unit + ", 0)", Edges.INDEX);
            Edges.leaves(Stands::rich, "isAncestor(0, " + unit + ")", Edges.INDEX);
            Edges.answers(Stands::rich, "isAncestor(" + unit + ", " + unit + ")", Edges.INDEX);
        }
        Edges.leaves(Stands::empty, "isAncestor(0, 0)", Edges.INDEX);
        Edges.answers(Stands::sixtyUnits, "isAncestor(0, 60)", Edges.INDEX);
        Edges.answers(Stands::sixtyUnits, "isAncestor(60, 0)", Edges.INDEX);
    }

    private static void promise8() {
        Edges.sentence(8, "Returns a unit that is present and is a given unit or has it as an ancestor.");
        Edges.leaves(Stands::rich, "became(0, 0)", 6);
        Edges.leaves(Stands::rich, "became(5, 0)", 5);
        Edges.answers(Stands::rich, "became(6, 0)", 6);
        Edges.answers(Stands::rich, "became(4, 0)", 6);
        Edges.sentence(8, "`unit`: the unit");
        Edges.answers(() -> Stands.units(59), "became(58, 0)", 58);
        Edges.answers(Stands::sixtyUnits, "became(59, 0)", 59);
        Edges.sentence(8, "`index`: the index, from 0, in ascending order of these units");
        // Of the 59 units by 29 splits the 29 odd ones are present, and the last one.
        Edges.answers(() -> Stands.units(59), "became(0, 0)", 1);
        Edges.answers(() -> Stands.units(59), "became(0, 28)", 57);
        Edges.answers(() -> Stands.units(59), "became(0, 29)", 58);
        Edges.answers(() -> Stands.units(59), "became(54, 0)", 55);
        Edges.answers(() -> Stands.units(59), "became(54, 2)", 58);
        Edges.sentence(8, "Returns the unit.");
        Edges.answers(() -> Stands.units(59), "became(57, 0)", 57);
        Edges.sentence(8, "Throws `IndexOutOfBoundsException` if there is no such unit");
        for (int unit : new int[] {-1, 7, 60, 64, Integer.MIN_VALUE, Integer.MAX_VALUE}) {
            Edges.leaves(Stands::rich, "became(" + unit + ", 0)", Edges.INDEX);
            Edges.answers(Stands::rich, "became(" + unit + ", -1)", Edges.INDEX);
        }
        Edges.leaves(Stands::empty, "became(0, 0)", Edges.INDEX);
        Edges.answers(Stands::sixtyUnits, "became(60, 0)", Edges.INDEX);
        Edges.sentence(8, "Throws `NoSuchElementException` if there is no such index");
        for (int index : new int[] {-1, 1, Integer.MIN_VALUE, Integer.MAX_VALUE}) {
            Edges.leaves(Stands::rich, "became(0, " + index + ")", Edges.ELEMENT);
        }
        Edges.leaves(Stands::rich, "became(2, 0)", Edges.ELEMENT);
        Edges.answers(() -> Stands.units(59), "became(0, 30)", Edges.ELEMENT);
        Edges.answers(() -> Stands.units(59), "became(57, 1)", Edges.ELEMENT);
    }
}
