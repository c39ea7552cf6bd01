/** Sentences on the whole census, undo, the snapshot and exceptions: promises 26 to 29. */
final class WholeEdges {
    /** Each kind of change, as a call on a rich census, with its answer. */
    private static final String[][] CHANGES = {
        {"addBuilding(55)", "2"}, {"apply(4, 6, 0, 0, 0)", "15"}, {"applyAll()", "2"}, {"grant(14)", "3"}, {"refuse(13)", "3"},
        {"begin(11)", "0"}, {"finish(12)", "7"}, {"withdraw(11)", "1"}, {"withdraw(12)", "2"}, {"withdraw(14)", "0"},
        {"pass(31)", "1"}, {"pass(1)", "0"},
    };

    private WholeEdges() {
    }

    static void all() {
        changes();
        eight();
        keptByUndo();
        unchanged();
        order();
        promise26();
        promise27();
        promise28();
        promise29();
        promise29Wrong();
    }

    /** The rich census with two applications in its input, and without a change that could be undone. */
    private static BuildingCensus settled() {
        BuildingCensus census = Stands.richWith("e5;j5+6");
        census.save();
        census.restore();
        return census;
    }

    private static BuildingCensus settledAfter(String... calls) {
        BuildingCensus census = settled();
        for (String call : calls) {
            Edges.ask(census, call);
        }
        return census;
    }

    private static void changes() {
        Edges.sentence(0, "Changes. The changes are the successful calls of addBuilding, apply, applyAll, grant, refuse, begin, "
                + "finish, withdraw and pass.");
        for (String[] change : CHANGES) {
            Edges.run(settled(), "total(7)", 0, change[0], change[1], "total(7)", 1, "undo()", 0, "total(7)", 0);
        }
        for (String other : new String[] {"feed(x)", "save()", "reason()", "errorPosition()", "fullestDay()", "meanArea(0)",
            "count(0, -1, -1, true)", "replayed(0, -1, -1, true)", "unit(0, 0)", "permit(14, 7)", "became(0, 0)"}) {
            BuildingCensus census = settledAfter("pass(1)", other);
            Edges.run(census, "total(7)", 1, "undo()", 0, "total(0)", 33);
        }
        Edges.run(Stands.typed("0:0,0"), "check(0)", 0, "total(7)", 0, "undo()", Edges.STATE);
        for (String failed : new String[] {"addBuilding(9)", "apply(6, 0, 0, 0, 0)", "grant(13)", "refuse(12)", "begin(12)",
            "finish(11)", "withdraw(10)", "pass(0)", "grant(15)", "check(34)"}) {
            Edges.run(settledAfter("pass(1)", failed), "total(7)", 1, "undo()", 0, "total(0)", 33);
        }
        Edges.run(Stands.typed("s1:0"), "applyAll()", Edges.ARGUMENT, "total(7)", 0, "undo()", Edges.STATE);
    }

    private static void eight() {
        Edges.sentence(0, "The latest 8 of them can be undone.");
        for (int changes = 1; changes <= 20; changes++) {
            BuildingCensus census = new BuildingCensus();
            for (int i = 0; i < changes; i++) {
                census.pass(1);
            }
            int left = Math.min(changes, 8);
            Edges.run(census, "total(7)", left);
            for (int undone = 1; undone <= left; undone++) {
                Edges.run(census, "undo()", left - undone, "total(0)", changes - undone, "total(7)", left - undone);
            }
            Edges.run(census, "undo()", Edges.STATE, "total(0)", changes - left);
        }
        // One that fell out of the eight does not come back when later ones are undone.
        BuildingCensus census = new BuildingCensus();
        for (int i = 0; i < 9; i++) {
            census.pass(1);
        }
        Edges.run(census, "undo()", 7, "undo()", 6, "pass(5)", 0, "total(7)", 7, "pass(5)", 0, "total(7)", 8, "pass(5)", 0,
                "total(7)", 8, "undo()", 7, "total(0)", 17, "undo()", 6, "total(0)", 12, "undo()", 5, "total(0)", 7,
                "undo()", 4, "total(0)", 6);
    }

    private static void keptByUndo() {
        Edges.sentence(0, "The input, the error position and the reason do not go back.");
        BuildingCensus census = settled();
        Edges.run(census, "addBuilding(55)", 2, "feed(;)", 8, "feed(e)", 9, "feed(x)", 10, "undo()", 0, "total(8)", 10,
                "pass(1)", 0, "applyAll()", Edges.ARGUMENT, "errorPosition()", 9, "undo()", 0, "errorPosition()", 9,
                "total(8)", 0, "apply(4, 0, 0, 0, 0)", 15, "grant(15)", Edges.STATE, "reason()", 1, "undo()", 0, "reason()", 1);
        census = settled();
        Edges.run(census, "applyAll()", 2, "total(8)", 0, "undo()", 0, "total(4)", 15, "total(8)", 0);
    }

    private static void unchanged() {
        Edges.sentence(0, "Exceptions. A method that throws an exception leaves everything unchanged, except that the input is "
                + "treated as described, and that reasons and error positions are kept.");
        for (String[] call : new String[][] {{"addBuilding(9)", Edges.ARGUMENT}, {"building(2, 0)", Edges.INDEX},
            {"floor(0, 1, 0)", Edges.INDEX}, {"unit(7, 0)", Edges.INDEX}, {"parent(0, 0)", Edges.ELEMENT},
            {"isAncestor(0, 7)", Edges.INDEX}, {"became(2, 0)", Edges.ELEMENT}, {"apply(4, 0, 1, 0, 0)", Edges.ARGUMENT},
            {"grant(13)", Edges.STATE}, {"grant(12)", Edges.STAGE}, {"refuse(12)", Edges.STAGE}, {"begin(12)", Edges.STAGE},
            {"finish(11)", Edges.STAGE}, {"withdraw(10)", Edges.STAGE}, {"permit(15, 0)", Edges.INDEX},
            {"pass(100)", Edges.ARGUMENT}, {"count(34, -1, -1, true)", Edges.ARGUMENT},
            {"replayed(34, -1, -1, true)", Edges.ARGUMENT}, {"meanArea(34)", Edges.ARGUMENT}, {"total(9)", Edges.ARGUMENT}}) {
            Edges.leaves(Stands::rich, call[0], call[1]);
        }
        // What was saved stays, too, and a second refused call leaves as much as the first.
        Edges.leaves(() -> {
            BuildingCensus census = Stands.rich();
            Edges.ask(census, "grant(13)");
            Edges.ask(census, "finish(11)");
            Edges.ask(census, "replayed(34, -1, -1, true)");
            return census;
        }, "grant(13)", Edges.STATE, Stands::rich);
    }

    private static void order() {
        Edges.sentence(0, "The exceptions of a method are checked in the order in which they are listed.");
        Edges.answers(Stands::fourBuildings, "addBuilding(9)", Edges.ARGUMENT);
        Edges.answers(Stands::rich, "building(2, 4)", Edges.INDEX);
        Edges.answers(Stands::rich, "floor(0, 1, 4)", Edges.INDEX);
        Edges.answers(Stands::rich, "unit(7, 8)", Edges.INDEX);
        Edges.answers(Stands::rich, "parent(7, 9)", Edges.INDEX);
        Edges.answers(Stands::rich, "became(7, 9)", Edges.INDEX);
        Edges.answers(Stands::fortyPermits, "apply(9, 0, 0, 0, 0)", Edges.ARGUMENT);
        // A stage that is not 0 goes before a reason, and then none is kept.
        BuildingCensus census = Stands.oneBuilding();
        Edges.run(census, "apply(4, 0, 0, 0, 0)", 0, "refuse(0)", 1, "grant(0)", Edges.STAGE, "reason()", Edges.ELEMENT);
        Edges.answers(Stands::rich, "permit(15, 8)", Edges.INDEX);
        Edges.answers(Stands::lastDay, "pass(100)", Edges.ARGUMENT);
        Edges.answers(Stands::lastDay, "pass(0)", Edges.ARGUMENT);
        Edges.answers(Stands::rich, "count(34, 2, 0, true)", Edges.INDEX);
        Edges.answers(Stands::rich, "replayed(34, 0, 5, true)", Edges.INDEX);
        Edges.answers(Stands::empty, "meanArea(1)", Edges.ARGUMENT);
    }

    private static void promise26() {
        Edges.sentence(26, "Returns a number of the census.");
        Edges.leaves(Stands::rich, "total(0)", 33);
        Edges.sentence(26, "`what`: 0 for the present day, 1 for the buildings, 2 for all units that came, 3 for those that are "
                + "present, 4 for the permits, 5 for the open ones, 6 for the finished ones, 7 for the changes that can be "
                + "undone, 8 for the characters of the input");
        int[] rich = {33, 2, 7, 2, 15, 2, 8, 8, 4};
        int[] most = {0, 1, 60, 31, 31, 0, 31, 8, 0};
        for (int what = 0; what <= 8; what++) {
            Edges.answers(Stands::rich, "total(" + what + ")", rich[what]);
            Edges.answers(Stands::sixtyUnits, "total(" + what + ")", most[what]);
            Edges.answers(Stands::empty, "total(" + what + ")", 0);
        }
        Edges.sentence(26, "Returns the number.");
        Edges.answers(Stands::lastDay, "total(0)", 9999);
        Edges.answers(Stands::fourBuildings, "total(1)", 4);
        Edges.answers(Stands::fortyPermits, "total(4)", 40);
        Edges.answers(() -> Stands.typed("x".repeat(60)), "total(8)", 60);
        Edges.sentence(26, "Throws `IllegalArgumentException` if what is out of range");
        for (int what : new int[] {-1, 9, Integer.MIN_VALUE, Integer.MAX_VALUE}) {
            Edges.leaves(Stands::rich, "total(" + what + ")", Edges.ARGUMENT);
            Edges.leaves(Stands::empty, "total(" + what + ")", Edges.ARGUMENT);
        }
    }

    private static void promise27() {
        Edges.sentence(27, "Undoes the latest change that was not undone.");
        for (String[] change : CHANGES) {
            boolean isReading = change[0].equals("applyAll()");
            Edges.leaves(() -> settledAfter(change[0]), "undo()", 0, isReading ? WholeEdges::settledRead : WholeEdges::settled);
            if (!isReading) {
                Edges.leaves(() -> settledAfter("pass(1)", change[0]), "undo()", 1, () -> settledAfter("pass(1)"));
                Edges.leaves(() -> settledAfter(change[0], "pass(1)", "undo()"), "undo()", 0, WholeEdges::settled);
            }
        }
        Edges.run(Stands.empty(), "pass(1)", 0, "pass(2)", 0, "undo()", 1, "pass(4)", 0, "undo()", 1, "undo()", 0, "total(0)", 0);
        Edges.sentence(27, "Returns the number of changes that can still be undone.");
        Edges.answers(Stands::rich, "undo()", 7);
        Edges.answers(Stands::oneBuilding, "undo()", 0);
        Edges.answers(() -> Due.census(10, 10), "undo()", 1);
        Edges.sentence(27, "Throws `IllegalStateException` if there is none");
        Edges.leaves(Stands::empty, "undo()", Edges.STATE);
        Edges.leaves(WholeEdges::settled, "undo()", Edges.STATE);
        Edges.leaves(() -> settledAfter("pass(1)", "undo()"), "undo()", Edges.STATE);
        Edges.leaves(() -> {
            BuildingCensus census = Stands.rich();
            for (int i = 0; i < 8; i++) {
                census.undo();
            }
            return census;
        }, "undo()", Edges.STATE);
    }

    /** The settled census with its input read: what was applied for is undone, but the input is empty. */
    private static BuildingCensus settledRead() {
        BuildingCensus census = Stands.richWithoutInput();
        census.save();
        census.restore();
        return census;
    }

    private static void promise28() {
        Edges.sentence(28, "Saves the day, the buildings, the units and the permits, in place of what was saved before.");
        // What was saved in the rich census is replaced; all else stays.
        Edges.leaves(WholeEdges::settled, "save()", 2);
        for (String[] change : CHANGES) {
            boolean isReading = change[0].equals("applyAll()");
            if (!isReading) {
                Edges.leaves(() -> settledAfter("save()", change[0]), "restore()", 2, WholeEdges::settled);
                Edges.leaves(() -> settledAfter("save()", "pass(9)", change[0], "save()", "pass(9)"), "restore()",
                        settledAfter("pass(9)", change[0]).total(3), () -> settledAfter("pass(9)", change[0], "save()", "restore()"));
            }
        }
        Edges.run(Stands.rich(), "total(7)", 8, "save()", 2, "total(7)", 8, "undo()", 7, "permit(14, 0)", Edges.INDEX,
                "restore()", 2, "permit(14, 0)", 4);
        Edges.sentence(28, "Returns the number of units that are present.");
        Edges.answers(Stands::empty, "save()", 0);
        Edges.answers(Stands::rich, "save()", 2);
        Edges.answers(Stands::sixtyUnits, "save()", 31);
        Edges.answers(Stands::sixFloors, "save()", 0);
    }

    private static void promise29() {
        Edges.sentence(29, "Restores what was saved last, which stays saved. Nothing can be undone then.");
        Edges.leaves(() -> settledAfter("pass(1)", "addBuilding(77)", "finish(12)"), "restore()", 2, WholeEdges::settled);
        Edges.leaves(WholeEdges::settled, "restore()", 2);
        Edges.leaves(() -> settledAfter("pass(1)", "restore()", "finish(12)", "pass(1)"), "restore()", 2, WholeEdges::settled);
        Edges.run(settledAfter("pass(1)", "restore()"), "total(7)", 0, "undo()", Edges.STATE, "pass(1)", 0, "total(7)", 1,
                "undo()", 0, "total(0)", 33, "undo()", Edges.STATE);
        // A new object that was saved is restored as a new one, but for the input, the error position and the reason.
        BuildingCensus census = new BuildingCensus();
        Edges.run(census, "save()", 0, "addBuilding(10)", 0, "pass(9)", 0, "apply(4, 0, 0, 0, 0)", 0, "grant(0)", Edges.STATE,
                "feed(x)", 1, "applyAll()", Edges.ARGUMENT, "feed(x)", 1, "restore()", 0, "total(0)", 0, "total(1)", 0,
                "total(4)", 0, "total(7)", 0, "total(8)", 1, "reason()", 1, "errorPosition()", 0);
        // What was saved is not undone: the change before it is.
        Edges.run(Stands.oneBuilding(), "pass(1)", 0, "save()", 0, "undo()", 1, "total(0)", 0, "restore()", 0, "total(0)", 1);
        // A permit that was open lapses by its day also after a restore.
        Edges.run(settled(), "pass(30)", 0, "save()", 2, "pass(1)", 1, "restore()", 2, "permit(11, 5)", 1, "pass(1)", 1,
                "permit(11, 5)", 5, "restore()", 2, "permit(11, 6)", 33);
        Edges.sentence(29, "Returns the number of units that are present.");
        Edges.answers(() -> settledAfter("apply(0, 0, 0, 1, 0)", "grant(15)", "begin(15)", "finish(15)"), "restore()", 2);
        Edges.run(Stands.sixtyUnits(), "save()", 31, "undo()", 7, "total(3)", 30, "restore()", 31);
        Edges.run(Stands.empty(), "save()", 0, "restore()", 0);
    }

    private static void promise29Wrong() {
        Edges.sentence(29, "Throws `IllegalStateException` if nothing was saved");
        Edges.leaves(Stands::empty, "restore()", Edges.STATE);
        Edges.leaves(Stands::stages, "restore()", Edges.STATE);
        Edges.leaves(() -> {
            BuildingCensus census = Stands.oneBuilding();
            Edges.ask(census, "restore()");
            return census;
        }, "restore()", Edges.STATE, Stands::oneBuilding);
        // An undo does not take away that something was saved.
        Edges.run(Stands.oneBuilding(), "save()", 0, "undo()", 0, "restore()", 0, "total(1)", 1);
    }
}
