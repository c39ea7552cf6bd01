import java.util.NoSuchElementException;

/** Promises 5 to 8: unit, parent, isAncestor, became; and how units are split, joined and changed. */
public final class UnitsTest {
    private static final Class<IllegalArgumentException> ARGUMENT = IllegalArgumentException.class;
    private static final Class<IndexOutOfBoundsException> INDEX = IndexOutOfBoundsException.class;
    private static final Class<NoSuchElementException> ELEMENT = NoSuchElementException.class;

    public static void main(String[] args) {
        promise5();
        promise5Splitting();
        promise5Ties();
        promise5SameUseTwice();
        promise6();
        promise7();
        promise8();
        Due.end();
    }

    private static void areas(String what, BuildingCensus census, int unit, int... want) {
        for (int use = 0; use < want.length; use++) {
            Due.is(what + ", use " + use, want[use], census.unit(unit, 10 + use));
        }
    }

    private static void promise5() {
        BuildingCensus census = Due.census(100, 90);
        census.pass(5);
        Due.carry(census, 5, 1, 80, 0, 0);
        int unit = Due.carry(census, 0, 1, 1, 30, 4);
        Due.is("5: building", 1, census.unit(unit, 0));
        Due.is("5: floor", 1, census.unit(unit, 1));
        Due.is("5: area", 30, census.unit(unit, 2));
        Due.is("5: came", 5, census.unit(unit, 3));
        Due.is("5: present", -1, census.unit(unit, 4));
        Due.is("5: generation", 0, census.unit(unit, 5));
        Due.is("5: parents", 0, census.unit(unit, 6));
        Due.is("5: permit", 1, census.unit(unit, 7));
        areas("5: areas", census, unit, 0, 0, 0, 0, 30);
        census.pass(3);
        int changed = Due.carry(census, 3, unit, 12, 4, 0);
        Due.is("5: ended", 8, census.unit(unit, 4));
        Due.is("5: ended, but came", 5, census.unit(unit, 3));
        Due.is("5: like it, building", 1, census.unit(changed, 0));
        Due.is("5: like it, floor", 1, census.unit(changed, 1));
        Due.is("5: like it, area", 30, census.unit(changed, 2));
        Due.is("5: changed on", 8, census.unit(changed, 3));
        Due.is("5: generation 1", 1, census.unit(changed, 5));
        Due.is("5: one parent", 1, census.unit(changed, 6));
        Due.is("5: the change's permit", 2, census.unit(changed, 7));
        areas("5: changed areas", census, changed, 12, 0, 0, 0, 18);
        areas("5: the ended unit keeps its areas", census, unit, 0, 0, 0, 0, 30);
        int other = Due.carry(census, 0, 1, 1, 5, 1);
        int joined = Due.carry(census, 2, other, changed, 0, 0);
        areas("5: joined areas", census, joined, 12, 5, 0, 0, 18);
        Due.is("5: generation 2", 2, census.unit(joined, 5));
        Due.is("5: two parents", 2, census.unit(joined, 6));
        Due.is("5: joined area", 35, census.unit(joined, 2));
        for (int what : new int[] {-1, 8, 9, 15, Integer.MAX_VALUE, Integer.MIN_VALUE}) {
            Due.fails("5: what " + what, ARGUMENT, () -> census.unit(0, what));
        }
        Due.fails("5: unit -1", INDEX, () -> census.unit(-1, 0));
        Due.fails("5: unit 4", INDEX, () -> census.unit(4, 0));
        Due.fails("5: unit goes first", INDEX, () -> census.unit(4, 99));
    }

    private static void promise5Splitting() {
        BuildingCensus census = Due.census(999);
        int unit = Due.carry(census, 0, 0, 0, 50, 0);
        unit = Due.carry(census, 3, unit, 20, 0, 3);
        unit = Due.carry(census, 3, unit, 7, 0, 4);
        areas("5: before the split", census, unit, 23, 0, 0, 20, 7);
        int first = Due.carry(census, 1, unit, 13, 0, 0);
        // 23*13/50 = 5 rest 49; 20*13/50 = 5 rest 10; 7*13/50 = 1 rest 41; 2 are missing.
        areas("5: first part", census, first, 6, 0, 0, 5, 2);
        areas("5: second part", census, first + 1, 17, 0, 0, 15, 5);
        Due.is("5: floor of a part", 0, census.unit(first + 1, 1));
        Due.is("5: generation of the first part", 3, census.unit(first, 5));
        Due.is("5: generation of the second part", 3, census.unit(first + 1, 5));
        Due.is("5: parents of the second part", 1, census.unit(first + 1, 6));
    }

    private static void promise5Ties() {
        BuildingCensus census = Due.census(999);
        int unit = Due.carry(census, 0, 0, 0, 20, 4);
        for (int use = 0; use < 4; use++) {
            unit = Due.carry(census, 3, unit, 4, 4, use);
        }
        int first = Due.carry(census, 1, unit, 7, 0, 0);
        // 4*7/20 = 1 rest 8 for each use; 2 are missing, and go to the lowest numbers.
        areas("5: ties, first part", census, first, 2, 2, 1, 1, 1);
        areas("5: ties, second part", census, first + 1, 2, 2, 3, 3, 3);
    }

    private static void promise5SameUseTwice() {
        BuildingCensus census = Due.census(999);
        int unit = Due.carry(census, 0, 0, 0, 20, 4);
        int same = Due.carry(census, 3, unit, 20, 4, 4);
        areas("5: the same use twice", census, same, 0, 0, 0, 0, 20);
        Due.is("5: the same use twice ends the unit", 0, census.unit(unit, 4));
        Due.is("5: and has a generation", 1, census.unit(same, 5));
    }

    private static BuildingCensus family() {
        // 0; split: 1, 2; 3 is new; 4 joins 3 and 1; split of 2: 5, 6; 7 joins 6 and 4; 8 changes 5; 9 is new.
        BuildingCensus census = Due.census(999);
        Due.carry(census, 0, 0, 0, 100, 0);
        Due.carry(census, 1, 0, 40, 0, 0);
        Due.carry(census, 0, 0, 0, 10, 0);
        Due.carry(census, 2, 3, 1, 0, 0);
        Due.carry(census, 1, 2, 20, 0, 0);
        Due.carry(census, 2, 6, 4, 0, 0);
        Due.carry(census, 3, 5, 3, 0, 1);
        Due.carry(census, 0, 0, 0, 1, 0);
        return census;
    }

    private static void promise6() {
        BuildingCensus census = family();
        Due.is("6: of a split", 0, census.parent(2, 0));
        Due.is("6: first of a join", 1, census.parent(4, 0));
        Due.is("6: second of a join", 3, census.parent(4, 1));
        Due.is("6: of a change", 5, census.parent(8, 0));
        Due.fails("6: a second of a split", ELEMENT, () -> census.parent(2, 1));
        Due.fails("6: a third of a join", ELEMENT, () -> census.parent(4, 2));
        Due.fails("6: index -1", ELEMENT, () -> census.parent(4, -1));
        Due.fails("6: of a new unit", ELEMENT, () -> census.parent(0, 0));
        Due.fails("6: unit 10", INDEX, () -> census.parent(10, 0));
        Due.fails("6: unit -1 goes first", INDEX, () -> census.parent(-1, -1));
    }

    private static void promise7() {
        BuildingCensus census = family();
        int[][] ancestors = {{}, {0}, {0}, {}, {0, 1, 3}, {0, 2}, {0, 2}, {0, 1, 2, 3, 4, 6}, {0, 2, 5}, {}};
        for (int other = 0; other < 10; other++) {
            for (int unit = 0; unit < 10; unit++) {
                int want = 0;
                for (int ancestor : ancestors[other]) {
                    want |= ancestor == unit ? 1 : 0;
                }
                Due.is("7: isAncestor(" + unit + ", " + other + ")", want, census.isAncestor(unit, other) ? 1 : 0);
            }
        }
        Due.fails("7: unit 10", INDEX, () -> census.isAncestor(10, 0));
        Due.fails("7: other 10", INDEX, () -> census.isAncestor(0, 10));
        Due.fails("7: unit -1", INDEX, () -> census.isAncestor(-1, 0));
        Due.fails("7: other -1", INDEX, () -> census.isAncestor(0, -1));
    }

    private static void promise8() {
        BuildingCensus census = family();
        Due.is("8: first of 0", 7, census.became(0, 0));
        Due.is("8: second of 0", 8, census.became(0, 1));
        Due.fails("8: third of 0", ELEMENT, () -> census.became(0, 2));
        Due.is("8: of 3", 7, census.became(3, 0));
        Due.is("8: of 5", 8, census.became(5, 0));
        Due.is("8: itself", 9, census.became(9, 0));
        Due.fails("8: no second self", ELEMENT, () -> census.became(9, 1));
        Due.fails("8: index -1", ELEMENT, () -> census.became(0, -1));
        Due.carry(census, 4, 9, 0, 0, 0);
        Due.fails("8: an ended one", ELEMENT, () -> census.became(9, 0));
        Due.fails("8: unit 10 goes first", INDEX, () -> census.became(10, -1));
        Due.fails("8: unit -1", INDEX, () -> census.became(-1, 0));
    }
}
