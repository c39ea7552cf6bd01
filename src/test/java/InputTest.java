import java.util.NoSuchElementException;

/** Promises 10, 24 and 25: applyAll, feed, errorPosition. */
public final class InputTest {
    private static final Class<IllegalArgumentException> ARGUMENT = IllegalArgumentException.class;
    private static final Class<IllegalStateException> STATE = IllegalStateException.class;
    private static final Class<NoSuchElementException> ELEMENT = NoSuchElementException.class;

    public static void main(String[] args) {
        promise10();
        promise10WrongAreas();
        promise10TooMany();
        promise24();
        promise25();
        promise25Signs();
        Due.end();
    }

    private static void permit(BuildingCensus census, int permit, int... want) {
        for (int what = 0; what < want.length; what++) {
            Due.is("10: permit " + permit + ", " + what, want[what], census.permit(permit, what));
        }
    }

    private static void promise10() {
        BuildingCensus census = new BuildingCensus();
        census.pass(6);
        Due.type(census, "u39=012e;s007:5;j1+20;c999:999ae;e5;f9=010");
        Due.is("10: six", 6, census.applyAll());
        permit(census, 0, 0, 3, 9, 12, 4, 0, 6);
        permit(census, 1, 1, 7, 5, 0, 0, 0, 6);
        permit(census, 2, 2, 1, 20, 0, 0, 0, 6);
        permit(census, 3, 3, 999, 999, 0, 4, 0, 6);
        permit(census, 4, 4, 5, 0, 0, 0, 0, 6);
        permit(census, 5, 5, 9, 10, 0, 0, 0, 6);
        Due.is("10: the input is empty", 0, census.total(8));
        Due.is("10: one change", 2, census.total(7));
        census.undo();
        Due.is("10: undone together", 0, census.total(4));
        Due.type(census, "j0+0");
        Due.is("10: one", 1, census.applyAll());
    }

    private static void promise10WrongAreas() {
        BuildingCensus census = new BuildingCensus();
        for (String text : new String[] {"u00=0a", "s0:000", "c0:0aa", "f0=9", "f0=009", "e1;f0=0", "f0=9;e1"}) {
            Due.type(census, text);
            Due.fails("10: " + text, ARGUMENT, census::applyAll);
            Due.is("10: all or none", 0, census.total(4));
            Due.is("10: the input is empty after " + text, 0, census.total(8));
            Due.fails("10: no error position", ELEMENT, census::errorPosition);
        }
        Due.type(census, "u00=0a;e");
        Due.fails("10: an error behind a wrong area", ARGUMENT, census::applyAll);
        Due.is("10: its position", 8, census.errorPosition());
        Due.is("10: no change", 0, census.total(7));
    }

    private static void promise10TooMany() {
        BuildingCensus census = new BuildingCensus();
        String twenty = "e0;".repeat(19) + "e0";
        Due.type(census, twenty);
        Due.is("10: twenty", 20, census.applyAll());
        Due.type(census, "e0;".repeat(18) + "e0");
        Due.is("10: nineteen", 19, census.applyAll());
        Due.type(census, "e1;e2");
        Due.fails("10: 41", STATE, census::applyAll);
        Due.is("10: the input is empty", 0, census.total(8));
        Due.is("10: none of both", 39, census.total(4));
        Due.type(census, "e1;s0:0");
        Due.fails("10: a wrong area goes first", ARGUMENT, census::applyAll);
        Due.type(census, "e1");
        Due.is("10: the fortieth", 1, census.applyAll());
        Due.type(census, "e1");
        Due.fails("10: full", STATE, census::applyAll);
    }

    private static void promise24() {
        BuildingCensus census = new BuildingCensus();
        for (int i = 1; i <= 60; i++) {
            Due.is("24: length", i, census.feed((char) (i * 1000)));
        }
        Due.fails("24: full", STATE, () -> census.feed('a'));
        Due.is("24: length", 60, census.total(8));
        Due.is("24: no change", 0, census.total(7));
        Due.fails("24: read", ARGUMENT, census::applyAll);
        Due.is("24: again", 1, census.feed('e'));
        Due.is("24: and again", 2, census.feed('7'));
        census.pass(1);
        census.undo();
        Due.is("24: the input does not go back", 2, census.total(8));
        Due.is("24: it is read", 1, census.applyAll());
    }

    private static void error(BuildingCensus census, String text, int position) {
        Due.type(census, text);
        Due.fails("25: " + text, ARGUMENT, census::applyAll);
        Due.is("25: error position of " + text, position, census.errorPosition());
        Due.is("25: the input is empty after " + text, 0, census.total(8));
    }

    private static void promise25() {
        BuildingCensus census = new BuildingCensus();
        Due.fails("25: none so far", ELEMENT, census::errorPosition);
        error(census, "x", 0);
        error(census, "", 0);
        error(census, "u", 1);
        error(census, "u0", 2);
        error(census, "u0a", 2);
        error(census, "u00", 3);
        error(census, "u000=1a", 3);
        error(census, "u00=a", 4);
        error(census, "u00=1234a", 7);
        error(census, "u00=123", 7);
        error(census, "u00=12f", 6);
        error(census, "u00=12A", 6);
        error(census, "u00=12ab", 7);
        error(census, "s0", 2);
        error(census, "s1234:5", 4);
        error(census, "s:5", 1);
        error(census, "s1:", 3);
        error(census, "s1:2222", 6);
        error(census, "j1:2", 2);
        error(census, "j1+", 3);
        error(census, "j1+2+3", 4);
        error(census, "c1:2a", 5);
        error(census, "c1:2a;e1", 5);
        error(census, "c1:2abc", 6);
        error(census, "e", 1);
        error(census, "e0001", 4);
        error(census, "e1;", 3);
        error(census, "e1;;e1", 3);
        error(census, "e1 ;e1", 2);
        error(census, "e1,e1", 2);
        error(census, "f10=10", 2);
        error(census, "f1=10a", 5);
        error(census, "0:1,1", 0);
        error(census, "E1", 0);
        error(census, "e1;".repeat(20), 60);
        Due.type(census, "e1");
        Due.is("25: a right text", 1, census.applyAll());
        Due.is("25: keeps it", 60, census.errorPosition());
        census.undo();
        Due.is("25: it does not go back", 60, census.errorPosition());
    }

    /** Signs beyond the digits and letters, also those that only look like them. */
    private static void promise25Signs() {
        BuildingCensus census = new BuildingCensus();
        for (char sign : new char[] {0, 255, 256, '/', ':', '`', 0x660, 0xFF10, 0xFFFF, (char) ('e' + 256), (char) -1}) {
            error(census, "e" + sign, 1);
            error(census, sign + "1", 0);
            error(census, "u00=1" + (sign == 'e' ? 'f' : sign), 5);
        }
        for (char part : new char[] {'#', 'N', 'A', 'F', '@'}) {
            error(census, "u" + part, 1);
            error(census, "" + part, 0);
            error(census, "f0=" + part, 3);
            error(census, "c0:1" + part, 4);
        }
    }
}
