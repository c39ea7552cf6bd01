import java.util.NoSuchElementException;

/** Promises 26 to 29: total, undo, save, restore. */
public final class WholeTest {
    private static final Class<IllegalArgumentException> ARGUMENT = IllegalArgumentException.class;
    private static final Class<IndexOutOfBoundsException> INDEX = IndexOutOfBoundsException.class;
    private static final Class<IllegalStateException> STATE = IllegalStateException.class;
    private static final Class<NoSuchElementException> ELEMENT = NoSuchElementException.class;

    public static void main(String[] args) {
        promise26();
        promise27();
        promise27EachChange();
        promise27Eight();
        promise27Failures();
        promise28();
        promise29();
        Due.end();
    }

    private static void totals(String what, BuildingCensus census, int... want) {
        for (int i = 0; i < want.length; i++) {
            Due.is(what + ", total(" + i + ")", want[i], census.total(i));
        }
    }

    private static void promise26() {
        BuildingCensus census = Due.census(100, 100);
        Due.carry(census, 0, 0, 0, 30, 0);
        Due.carry(census, 1, 0, 10, 0, 0);
        Due.open(census, 4, 1, 0, 0, 0);
        census.begin(Due.open(census, 4, 2, 0, 0, 0));
        census.refuse(census.apply(4, 2, 0, 0, 0));
        census.pass(12);
        Due.type(census, "abc");
        totals("26", census, 12, 2, 3, 2, 5, 2, 2, 8, 3);
        Due.fails("26: what 9", ARGUMENT, () -> census.total(9));
        Due.fails("26: what -1", ARGUMENT, () -> census.total(-1));
    }

    private static void promise27() {
        BuildingCensus census = Due.census(100);
        Due.carry(census, 0, 0, 0, 30, 0);
        census.pass(40);
        Due.is("27: the pass", 5, census.undo());
        Due.is("27: day", 0, census.total(0));
        Due.is("27: the finish", 4, census.undo());
        Due.is("27: no unit", 0, census.total(2));
        Due.is("27: begun", 2, census.permit(0, 5));
        Due.is("27: no finished one", 0, census.total(6));
        Due.is("27: the begin", 3, census.undo());
        Due.is("27: granted", 1, census.permit(0, 5));
        Due.is("27: the grant", 2, census.undo());
        Due.is("27: applied", 0, census.permit(0, 5));
        Due.is("27: a new change", 1, census.grant(0));
        Due.is("27: undone", 2, census.undo());
        Due.is("27: the apply", 1, census.undo());
        Due.fails("27: no permit", INDEX, () -> census.permit(0, 0));
        Due.is("27: the building", 0, census.undo());
        Due.is("27: no building", 0, census.total(1));
        Due.fails("27: nothing", STATE, census::undo);
    }

    private static void promise27EachChange() {
        BuildingCensus census = Due.census(100);
        Due.is("27: addBuilding", 1, census.total(7));
        census.apply(0, 0, 0, 5, 0);
        Due.is("27: apply", 2, census.total(7));
        Due.type(census, "u00=5a;u00=5a");
        Due.is("27: feed is no change", 2, census.total(7));
        census.applyAll();
        Due.is("27: applyAll", 3, census.total(7));
        census.grant(0);
        Due.is("27: grant", 4, census.total(7));
        census.refuse(1);
        Due.is("27: refuse", 5, census.total(7));
        census.begin(0);
        Due.is("27: begin", 6, census.total(7));
        census.withdraw(2);
        Due.is("27: withdraw", 7, census.total(7));
        census.undo();
        Due.is("27: the withdrawn one is applied", 0, census.permit(2, 5));
        census.finish(0);
        Due.is("27: finish", 7, census.total(7));
        census.pass(1);
        Due.is("27: pass", 8, census.total(7));
        census.save();
        census.count(0, -1, -1, true);
        census.replayed(0, -1, -1, true);
        Due.is("27: all else is no change", 8, census.total(7));
        census.undo();
        census.undo();
        census.undo();
        census.undo();
        Due.is("27: the refused one is applied", 0, census.permit(1, 5));
        Due.is("27: and the first is granted", 1, census.permit(0, 5));
    }

    private static void promise27Eight() {
        BuildingCensus census = new BuildingCensus();
        for (int i = 0; i < 21; i++) {
            census.pass(1);
        }
        for (int left = 7; left >= 0; left--) {
            Due.is("27: left", left, census.undo());
            Due.is("27: day", 13 + left, census.total(0));
        }
        Due.fails("27: the ninth", STATE, census::undo);
        census.pass(5);
        Due.is("27: one again", 0, census.undo());
        Due.is("27: day", 13, census.total(0));
    }

    private static void promise27Failures() {
        BuildingCensus census = Due.census(100);
        census.apply(4, 0, 0, 0, 0);
        Due.fails("27: grant fails", STATE, () -> census.grant(0));
        Due.fails("27: pass fails", ARGUMENT, () -> census.pass(0));
        Due.fails("27: apply fails", ARGUMENT, () -> census.apply(6, 0, 0, 0, 0));
        Due.fails("27: applyAll fails", ARGUMENT, census::applyAll);
        Due.is("27: two changes", 2, census.total(7));
        census.undo();
        Due.is("27: the reason does not go back", 1, census.reason());
        Due.is("27: the error position does not go back", 0, census.errorPosition());
    }

    private static void promise28() {
        BuildingCensus census = Due.census(100);
        Due.is("28: none", 0, census.save());
        Due.carry(census, 0, 0, 0, 30, 0);
        Due.carry(census, 1, 0, 10, 0, 0);
        int changes = census.total(7);
        Due.is("28: two", 2, census.save());
        Due.is("28: no change", changes, census.total(7));
        Due.carry(census, 4, 1, 0, 0, 0);
        Due.is("28: in place of it", 1, census.save());
        census.restore();
        Due.is("28: the later one", 1, census.total(3));
    }

    private static void promise29() {
        BuildingCensus census = new BuildingCensus();
        Due.fails("29: nothing saved", STATE, census::restore);
        census.addBuilding(100);
        census.pass(3);
        Due.carry(census, 0, 0, 0, 30, 0);
        int open = Due.open(census, 1, 0, 10, 0, 0);
        Due.is("29: saved", 1, census.save());
        census.begin(open);
        census.finish(open);
        census.pass(50);
        census.addBuilding(50);
        Due.carry(census, 5, 0, 77, 0, 0);
        Due.type(census, "ab");
        Due.is("29: restored", 1, census.restore());
        totals("29", census, 3, 1, 1, 1, 2, 1, 1, 0, 2);
        Due.is("29: one floor", 1, census.building(0, 0));
        Due.is("29: granted", 1, census.permit(open, 5));
        Due.is("29: the unit is present", -1, census.unit(0, 4));
        Due.is("29: replayed", 1, census.replayed(3, -1, -1, false));
        Due.fails("29: nothing to undo", STATE, census::undo);
        census.pass(31);
        Due.is("29: it lapses", 5, census.permit(open, 5));
        Due.is("29: undone", 0, census.undo());
        Due.fails("29: no more than that", STATE, census::undo);
        census.pass(1);
        Due.is("29: it stays saved", 1, census.restore());
        Due.is("29: day", 3, census.total(0));
        Due.fails("29: no reason", ELEMENT, census::reason);
        Due.is("29: restored at once", 1, census.restore());
    }
}
