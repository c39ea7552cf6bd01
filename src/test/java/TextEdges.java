import java.util.function.Supplier;

/** Sentences on texts: promises 10, 24 and 25. */
final class TextEdges {
    private static final char[] WRONG = {'!', ' ', 'A', '\n', 0, 127, 255, 256, 0x660, 0xFF11, Character.MAX_VALUE};

    private TextEdges() {
    }

    static void all() {
        input();
        applications();
        units();
        told();
        numbers();
        uses();
        errorPositions();
        wrongAreas();
        promise10();
        promise10Wrong();
        promise10TooMany();
        promise24();
        promise25();
    }

    private static BuildingCensus with(String text) {
        return Stands.richWith(text);
    }

    /** A text that is read as applications of these permits, each with a kind and its numbers. */
    private static void reads(String text, int[]... permits) {
        BuildingCensus census = Stands.typed(text);
        Edges.run(census, "applyAll()", permits.length, "total(4)", permits.length, "total(8)", 0,
                "errorPosition()", Edges.ELEMENT);
        for (int permit = 0; permit < permits.length; permit++) {
            for (int what = 0; what < 5; what++) {
                Edges.run(census, "permit(" + permit + ", " + what + ")", permits[permit][what]);
            }
        }
    }

    private static int[] of(int... numbers) {
        return numbers;
    }

    /** A text in which applyAll, or check, finds an error at this position. */
    private static void error(String call, String text, int position) {
        BuildingCensus census = Stands.typed(text);
        String got = Edges.ask(census, call) + " at " + Edges.ask(census, "errorPosition()");
        String want = Edges.ARGUMENT + " at " + position;
        Due.note(got.equals(want), "\"" + text + "\": " + call + " answered " + got + ", due is " + want);
        Edges.run(census, "total(8)", 0, "total(4)", 0, "total(7)", 0);
    }

    private static void error(String text, int position) {
        error("applyAll()", text, position);
    }

    /** The text is right; each of its beginnings shorter than the first right one, and each wrong sign in it, is an error. */
    private static void each(String call, String text, int shortestRight) {
        for (int length = 0; length < shortestRight; length++) {
            error(call, text.substring(0, length), length);
        }
        for (int i = 0; i < text.length(); i++) {
            for (char wrong : WRONG) {
                error(call, text.substring(0, i) + wrong + text.substring(i + 1), i);
            }
        }
        for (char wrong : WRONG) {
            error(call, text + wrong, text.length());
        }
        error(call, text + ";", text.length() + 1);
        error(call, text + ";;", text.length() + 1);
        error(call, ";" + text, 0);
    }

    private static void input() {
        Edges.sentence(0, "Texts. There is an input of at most 60 characters.");
        BuildingCensus census = new BuildingCensus();
        for (int length = 1; length <= 60; length++) {
            Edges.run(census, "feed(x)", length, "total(8)", length);
        }
        Edges.run(census, "feed(x)", Edges.STATE, "total(8)", 60);
    }

    private static void applications() {
        Edges.sentence(0, "The form of applications is: one or more of them, with a semicolon between two of them.");
        error("", 0);
        reads("e1", of(4, 1, 0, 0, 0));
        reads("e1;e2", of(4, 1, 0, 0, 0), of(4, 2, 0, 0, 0));
        error(";", 0);
        error("e1;", 3);
        error(";e1", 0);
        error("e1;;e2", 3);
        error("e1,e2", 2);
        error("e1e2", 2);
        error("e1;0:1,1", 3);
        // Twenty, of three characters each but the first one, are the most that find place.
        BuildingCensus most = Stands.typed("e1;".repeat(19) + "e19");
        Edges.run(most, "total(8)", 60, "applyAll()", 20, "total(4)", 20, "permit(19, 1)", 19, "permit(18, 1)", 1);
        Edges.sentence(0, "An application is: u, a digit for a building, a digit for a floor, an equals sign, a number for an "
                + "area, and a letter for a use;");
        reads("u00=1a", of(0, 0, 0, 1, 0));
        reads("u99=999e", of(0, 9, 9, 999, 4));
        each("applyAll()", "u12=345c", 8);
        error("u123=4a", 3);
        error("u1=4a", 2);
        error("U12=3a", 0);
        Edges.sentence(0, "or f, a digit for a building, an equals sign, and a number for an area.");
        reads("f0=10", of(5, 0, 10, 0, 0));
        reads("f9=999", of(5, 9, 999, 0, 0));
        each("applyAll()", "f1=234", 4);
        error("f=10", 1);
        error("f11=10", 2);
        error("f1=1000", 6);
        error("f1=10a", 5);
    }

    private static void units() {
        Edges.sentence(0, "or s, a number for a unit, a colon, and a number for an area;");
        reads("s0:1", of(1, 0, 1, 0, 0));
        reads("s999:999", of(1, 999, 999, 0, 0));
        each("applyAll()", "s123:456", 6);
        error("s:1", 1);
        error("s1:", 3);
        error("s1:1a", 4);
        error("s1=1", 2);
        Edges.sentence(0, "or j, a number, a plus sign and a number, for two units;");
        reads("j0+0", of(2, 0, 0, 0, 0));
        reads("j999+999", of(2, 999, 999, 0, 0));
        reads("j1+20", of(2, 1, 20, 0, 0));
        each("applyAll()", "j123+456", 6);
        error("j+1", 1);
        error("j1+", 3);
        error("j1:2", 2);
        error("j1+2+3", 4);
        Edges.sentence(0, "or c, a number for a unit, a colon, a number for an area, and two letters for uses;");
        reads("c0:1aa", of(3, 0, 1, 0, 0));
        reads("c999:999ee", of(3, 999, 999, 4, 4));
        reads("c7:8be", of(3, 7, 8, 1, 4));
        each("applyAll()", "c123:456de", 10);
        error("c1:2a", 5);
        error("c1:2abc", 6);
        error("c1:ab", 3);
        Edges.sentence(0, "or e and a number for a unit;");
        reads("e0", of(4, 0, 0, 0, 0));
        reads("e999", of(4, 999, 0, 0, 0));
        each("applyAll()", "e123", 2);
        error("e", 1);
        error("e1:2", 2);
        for (char first = 0; first < 300; first++) {
            if ("usjcef".indexOf(first) < 0) {
                error(first + "1", 0);
            }
        }
    }

    private static void told() {
        Edges.sentence(0, "The form of told counts is: one or more of them, with a semicolon between two of them; each consists "
                + "of a digit for a building, a colon, a number for units, a comma, and a number for an area.");
        each("check(0)", "1:234,567", 7);
        each("check(0)", "9:0,0", 5);
        error("check(0)", "", 0);
        error("check(0)", "10:1,1", 1);
        error("check(0)", ":1,1", 0);
        error("check(0)", "1:,1", 2);
        error("check(0)", "1:1,", 4);
        error("check(0)", "1:1;1", 3);
        error("check(0)", "1:1,1,1", 5);
        error("check(0)", "1:1,1;e1", 6);
        error("check(0)", "1:1234,1", 5);
        error("check(0)", "1:1,1234", 7);
        for (String right : new String[] {"0:0,0", "0:00,000", "0:0,0;0:000,00", "0:0,0;".repeat(9) + "0:0,0"}) {
            BuildingCensus census = Stands.oneBuilding();
            Due.type(census, right);
            Edges.run(census, "check(0)", -1, "total(8)", 0);
        }
        BuildingCensus none = Stands.typed("9:999,999");
        Edges.run(none, "check(0)", 0, "errorPosition()", Edges.ELEMENT);
    }

    private static void numbers() {
        Edges.sentence(0, "A number has 1 to 3 digits, zeros at the beginning allowed; letters for uses are a to e.");
        reads("e7;e07;e007;e70;e700", of(4, 7, 0, 0, 0), of(4, 7, 0, 0, 0), of(4, 7, 0, 0, 0), of(4, 70, 0, 0, 0),
                of(4, 700, 0, 0, 0));
        reads("s000:001", of(1, 0, 1, 0, 0));
        reads("f0=010", of(5, 0, 10, 0, 0));
        error("e0007", 4);
        error("e0000", 4);
        error("e1000", 4);
        error("s0001:1", 4);
        error("s1:0001", 6);
        error("j1+0001", 6);
        error("c1:0001aa", 6);
        error("u00=0001a", 7);
        error("f0=0010", 6);
        error("e-1", 1);
        error("e+1", 1);
    }

    private static void uses() {
        for (int use = 0; use < 5; use++) {
            char letter = (char) ('a' + use);
            reads("u00=1" + letter, of(0, 0, 0, 1, use));
            reads("c0:1" + letter + "a", of(3, 0, 1, use, 0));
            reads("c0:1a" + letter, of(3, 0, 1, 0, use));
        }
        for (char wrong : new char[] {'`', 'f', 'z', 'A', 'E', ';'}) {
            error("u00=1" + wrong, 5);
            error("c0:1" + wrong + "a", 4);
            error("c0:1a" + wrong, 5);
        }
    }

    private static void errorPositions() {
        Edges.sentence(0, "The error position of a text is the position, from 0, of the first character that cannot continue such "
                + "a text, or its length if it ends too early.");
        error("x", 0);
        error("xe1", 0);
        error("u", 1);
        error("u00=12", 6);
        error("u00=12;e1", 6);
        error("e1;e", 4);
        error("e1;s1", 5);
        error("e1;s1;e2", 5);
        // The first error counts, not a later one.
        error("e1;x;y;", 3);
        // At the greatest length: too early, and a last character that is wrong.
        error("e1;".repeat(20), 60);
        error("e1;".repeat(19) + "e1x", 59);
        error("e1;".repeat(18) + "u00=12", 60);
        error("x".repeat(60), 0);
        error("check(0)", "0:0,0;".repeat(10), 60);
        error("check(0)", "0:0,0;".repeat(9) + "0:0,0x", 59);
    }

    private static void wrongAreas() {
        Edges.sentence(0, "A wrong area in a text of applications is an IllegalArgumentException, but no error position.");
        for (String text : new String[] {"u00=0a", "u00=00a", "u00=000e", "s0:0", "s0:000", "c0:0aa", "c0:000ab", "f0=0", "f0=9",
            "f0=09", "f0=009", "f0=000", "e1;s1:0", "s1:0;e1", "f0=9;f0=10"}) {
            BuildingCensus census = Stands.typed(text);
            Edges.run(census, "applyAll()", Edges.ARGUMENT, "errorPosition()", Edges.ELEMENT, "total(4)", 0, "total(8)", 0,
                    "total(7)", 0);
            Edges.leaves(() -> with(text), "applyAll()", Edges.ARGUMENT, Stands::richWithoutInput);
        }
        reads("u00=1a;s0:1;c0:1aa;f0=10", of(0, 0, 0, 1, 0), of(1, 0, 1, 0, 0), of(3, 0, 1, 0, 0), of(5, 0, 10, 0, 0));
        reads("u00=001a;u00=999a", of(0, 0, 0, 1, 0), of(0, 0, 0, 999, 0));
        // The number 0 of a unit, a building or a floor is no area.
        reads("e0;j0+0;u00=1a", of(4, 0, 0, 0, 0), of(2, 0, 0, 0, 0), of(0, 0, 0, 1, 0));
        // A text with an error has its error position also behind, or before, a wrong area.
        error("s1:0;x", 5);
        error("x;s1:0", 0);
    }

    private static void promise10() {
        Edges.sentence(10, "Reads the input as applications, and applies for a permit by each of them, in their order, all or "
                + "none. The input is empty afterwards, also if an exception is thrown.");
        Supplier<BuildingCensus> read = () -> with("f1=010;e5;j1+2");
        // The same as by one apply for each; a restore takes away that this was one change, and those were three.
        Edges.leaves(() -> {
            BuildingCensus census = read.get();
            census.applyAll();
            census.save();
            return census;
        }, "restore()", 2, () -> {
            BuildingCensus census = Stands.richWithoutInput();
            census.apply(5, 1, 10, 0, 0);
            census.apply(4, 5, 0, 0, 0);
            census.apply(2, 1, 2, 0, 0);
            census.save();
            census.restore();
            return census;
        });
        BuildingCensus census = read.get();
        Edges.run(census, "applyAll()", 3, "permit(15, 0)", 5, "permit(15, 1)", 1, "permit(15, 2)", 10, "permit(16, 0)", 4,
                "permit(16, 1)", 5, "permit(17, 0)", 2, "permit(17, 1)", 1, "permit(17, 2)", 2, "permit(15, 5)", 0,
                "permit(17, 6)", 33, "total(8)", 0, "undo()", 7, "total(4)", 15, "total(8)", 0);
        Edges.leaves(() -> with("e1;e2;s3:0"), "applyAll()", Edges.ARGUMENT, Stands::richWithoutInput);
        Edges.sentence(10, "Returns the number of permits that are applied for.");
        Edges.answers(() -> with("e1"), "applyAll()", 1);
        Edges.answers(() -> with("e1;".repeat(19) + "e1"), "applyAll()", 20);
    }

    private static void promise10Wrong() {
        Edges.sentence(10, "Throws `IllegalArgumentException` if the text has an error, or an application tells the area 0, or "
                + "one less than 10 for a floor");
        Edges.leaves(() -> with(""), "applyAll()", Edges.ARGUMENT, Stands::richWithoutInput, "errorPosition()", "0");
        Edges.leaves(() -> with("e1;"), "applyAll()", Edges.ARGUMENT, Stands::richWithoutInput, "errorPosition()", "3");
        Edges.leaves(() -> with("e1;e2x"), "applyAll()", Edges.ARGUMENT, Stands::richWithoutInput, "errorPosition()", "5");
        Edges.leaves(() -> with("s1:0;e2x"), "applyAll()", Edges.ARGUMENT, Stands::richWithoutInput, "errorPosition()", "7");
        Edges.leaves(() -> with("s1:0"), "applyAll()", Edges.ARGUMENT, Stands::richWithoutInput);
        Edges.leaves(() -> with("f0=9"), "applyAll()", Edges.ARGUMENT, Stands::richWithoutInput);
        Edges.answers(() -> with("s1:1"), "applyAll()", 1);
        Edges.answers(() -> with("f0=10"), "applyAll()", 1);
        Edges.answers(() -> with("u99=999e"), "applyAll()", 1);
    }

    private static BuildingCensus full(int permits, String text) {
        BuildingCensus census = Stands.permits(permits);
        Due.type(census, text);
        return census;
    }

    private static void promise10TooMany() {
        Edges.sentence(10, "Throws `IllegalStateException` if there would be more than 40 permits");
        Edges.answers(() -> full(39, "e1"), "applyAll()", 1);
        Edges.answers(() -> full(38, "e1;e2"), "applyAll()", 2);
        Edges.leaves(() -> full(39, "e1;e2"), "applyAll()", Edges.STATE, () -> Stands.permits(39));
        Edges.leaves(() -> full(40, "e1"), "applyAll()", Edges.STATE, () -> Stands.permits(40));
        String twenty = "e1;".repeat(19) + "e1";
        Edges.answers(() -> full(20, twenty), "applyAll()", 20);
        Edges.leaves(() -> full(21, twenty), "applyAll()", Edges.STATE, () -> Stands.permits(21));
        // The exception that is listed first goes first.
        Edges.leaves(() -> full(40, "s1:0"), "applyAll()", Edges.ARGUMENT, () -> Stands.permits(40));
        Edges.leaves(() -> full(40, "e1x"), "applyAll()", Edges.ARGUMENT, () -> Stands.permits(40), "errorPosition()", "2");
    }

    private static void promise24() {
        Edges.sentence(24, "Appends a character to the input.");
        Edges.leaves(() -> with("e1;"), "feed(e)", 4, () -> with("e1;e"));
        Edges.run(new BuildingCensus(), "feed(e)", 1, "feed(5)", 2, "applyAll()", 1, "permit(0, 1)", 5);
        Edges.sentence(24, "`character`: any character");
        for (char sign : WRONG) {
            BuildingCensus census = new BuildingCensus();
            Due.is("feed(" + (int) sign + ")", 1, census.feed(sign));
            Due.is("feed(" + (int) sign + ")", 2, census.feed(sign));
            Edges.run(census, "total(8)", 2, "applyAll()", Edges.ARGUMENT, "errorPosition()", 0, "total(8)", 0);
        }
        Edges.sentence(24, "Returns the new length of the input.");
        Edges.answers(Stands::empty, "feed(x)", 1);
        Edges.answers(() -> Stands.typed("x".repeat(59)), "feed(x)", 60);
        Edges.run(Stands.typed("x".repeat(60)), "applyAll()", Edges.ARGUMENT, "feed(x)", 1, "check(0)", Edges.ARGUMENT,
                "feed(x)", 1);
        Edges.sentence(24, "Throws `IllegalStateException` if the input has 60 characters");
        Edges.leaves(() -> with("e1;".repeat(19) + "e12"), "feed(3)", Edges.STATE);
        Edges.leaves(() -> Stands.typed("x".repeat(60)), "feed(x)", Edges.STATE);
        Edges.answers(() -> Stands.typed("x".repeat(59)), "feed(x)", 60);
    }

    private static void promise25() {
        Edges.sentence(25, "Returns the error position of the text that was read last with an error.");
        Edges.leaves(Stands::rich, "errorPosition()", 3);
        BuildingCensus census = Stands.typed("e1;e");
        Edges.run(census, "applyAll()", Edges.ARGUMENT, "errorPosition()", 4, "feed(x)", 1, "check(0)", Edges.ARGUMENT,
                "errorPosition()", 0, "feed(e)", 1, "feed(1)", 2, "errorPosition()", 0, "applyAll()", 1, "errorPosition()", 0,
                "feed(1)", 1, "check(0)", Edges.ARGUMENT, "errorPosition()", 1, "feed(s)", 1, "feed(1)", 2, "feed(:)", 3,
                "feed(0)", 4, "applyAll()", Edges.ARGUMENT, "errorPosition()", 1, "check(1)", Edges.ARGUMENT,
                "errorPosition()", 1);
        Edges.sentence(25, "Returns the position.");
        Edges.run(Stands.typed(""), "applyAll()", Edges.ARGUMENT, "errorPosition()", 0);
        Edges.run(Stands.typed("e1;".repeat(20)), "applyAll()", Edges.ARGUMENT, "errorPosition()", 60);
        Edges.sentence(25, "Throws `NoSuchElementException` if no text had an error");
        Edges.leaves(Stands::empty, "errorPosition()", Edges.ELEMENT);
        Edges.leaves(() -> Stands.typed("x"), "errorPosition()", Edges.ELEMENT);
        Edges.run(Stands.typed("e1"), "applyAll()", 1, "errorPosition()", Edges.ELEMENT);
        Edges.run(Stands.typed("0:0,0"), "check(0)", 0, "errorPosition()", Edges.ELEMENT);
        Edges.run(Stands.typed("s1:0"), "applyAll()", Edges.ARGUMENT, "errorPosition()", Edges.ELEMENT);
    }
}
