import java.util.concurrent.Callable;

/**
 * Long runs of calls, the same at each time, on the census and on the model: every answer and every
 * exception must be the same, and after each change all that can be asked is asked of both.
 */
public final class ModelTest {
    private static final int RUNS = 400;
    private static final int CALLS = 512;

    private final int run;
    private long seed;
    private final BuildingCensus census = new BuildingCensus();
    private final Model model = new Model();
    private final StringBuilder calls = new StringBuilder();

    private ModelTest(int run) {
        this.run = run;
        this.seed = run * 7919L + 17;
    }

    public static void main(String[] args) {
        int runs = args.length > 0 ? Integer.parseInt(args[0]) : RUNS;
        for (int run = 0; run < runs; run++) {
            new ModelTest(run).play();
        }
        Due.end();
    }

    private int below(int bound) {
        seed = seed * 6364136223846793005L + 1442695040888963407L;
        return (int) ((seed >>> 33) % bound);
    }

    private boolean isOneOf(int many) {
        return below(many) == 0;
    }

    /** A number near a bound, seldom a wild one. */
    private int around(int bound) {
        if (isOneOf(40)) {
            int[] wild = {Integer.MIN_VALUE, Integer.MAX_VALUE, -1, -2, 1000, 64, -64, 1 << 26, 0x55555555};
            return wild[below(wild.length)];
        }
        return isOneOf(12) ? bound + below(3) - 1 : below(Math.max(bound, 1));
    }

    private void same(String call, Callable<?> got, Callable<?> want) {
        calls.append(call).append("; ");
        String was = answer(got, true);
        String due = answer(want, false);
        if (!was.equals(due)) {
            Due.note(false, "run " + run + ": " + calls + " answered " + was + ", due is " + due);
        } else {
            Due.note(true, "");
        }
    }

    private static String answer(Callable<?> call, boolean isCensus) {
        try {
            return String.valueOf(call.call());
        } catch (Exception e) {
            return e.getClass().getName() + (isCensus && !Due.isThrownByCensus(e) ? " of the machine" : "");
        }
    }

    private void play() {
        int style = run % 8;
        for (int i = 0; i < CALLS; i++) {
            if (i == 0 || isOneOf(style == 5 ? 9 : 40)) {
                int area = isOneOf(6) ? around(1001) : style == 2 ? 10 + below(60) : 100 + below(900);
                same("addBuilding(" + area + ")", () -> census.addBuilding(area), () -> model.addBuilding(area));
            } else if (isOneOf(3)) {
                stage(style);
            } else if (isOneOf(3)) {
                application(style);
            } else {
                other(style);
            }
            if (isOneOf(15)) {
                compareAll();
            }
        }
        compareAll();
    }

    /** Drives the permits on: mostly the one that is next at its stage. */
    private void stage(int style) {
        int permit = around(model.state.permits.size());
        int move = below(20);
        if (move < 15) {
            for (int i = model.state.permits.size() - 1; i >= 0; i--) {
                if (model.state.permits.get(i).stage < 3 && !isOneOf(3)) {
                    permit = i;
                    break;
                }
            }
        }
        int it = permit;
        int stage = it >= 0 && it < model.state.permits.size() ? model.state.permits.get(it).stage : below(3);
        int next = isOneOf(10) ? below(3) : stage;
        if (move == 19) {
            same("refuse(" + it + ")", () -> census.refuse(it), () -> model.refuse(it));
        } else if (move == 18) {
            same("withdraw(" + it + ")", () -> census.withdraw(it), () -> model.withdraw(it));
        } else if (next == 0) {
            same("grant(" + it + ")", () -> census.grant(it), () -> model.grant(it));
            same("reason()", census::reason, model::reason);
        } else if (next == 1) {
            same("begin(" + it + ")", () -> census.begin(it), () -> model.begin(it));
        } else {
            same("finish(" + it + ")", () -> census.finish(it), () -> model.finish(it));
        }
    }

    private int someUnit() {
        if (!model.state.units.isEmpty() && !isOneOf(6)) {
            for (int i = 0; i < 8; i++) {
                int unit = below(model.state.units.size());
                if (model.state.units.get(unit).ended < 0) {
                    return unit;
                }
            }
        }
        return around(model.state.units.size());
    }

    private void application(int style) {
        if (model.state.permits.size() >= 40 && !isOneOf(20)) {
            same("undo()", census::undo, model::undo);
            return;
        }
        int kind = isOneOf(30) ? around(6) : style == 1 && !isOneOf(8) ? 1 : style == 2 && !isOneOf(3) ? 5 : below(6);
        if (model.state.units.isEmpty() && !isOneOf(10)) {
            kind = 0;
        }
        int buildings = model.state.buildings.size();
        int[] n = new int[4];
        switch (kind) {
            case 0:
                n = new int[] {around(buildings), isOneOf(2) ? 0 : around(3), 1 + around(style == 1 ? 900 : 150), around(5)};
                break;
            case 1:
                n = new int[] {someUnit(), 1 + around(style == 1 ? 6 : 60), 0, 0};
                break;
            case 2:
                n = new int[] {someUnit(), someUnit(), 0, 0};
                break;
            case 3:
                n = new int[] {someUnit(), 1 + around(40), around(5), around(5)};
                break;
            case 4:
                n = new int[] {someUnit(), 0, 0, 0};
                break;
            default:
                n = new int[] {around(buildings), 10 + around(200), 0, 0};
                break;
        }
        if (isOneOf(30)) {
            n[below(4)] = around(1000);
        }
        if (isOneOf(5)) {
            type(textOf(kind, n) + (isOneOf(3) ? ";" + textOf(4, new int[] {someUnit(), 0, 0, 0}) : ""));
            same("applyAll()", census::applyAll, model::applyAll);
            same("errorPosition()", census::errorPosition, model::errorPosition);
            return;
        }
        int k = kind;
        int[] it = n;
        same("apply(" + k + ", " + it[0] + ", " + it[1] + ", " + it[2] + ", " + it[3] + ")",
                () -> census.apply(k, it[0], it[1], it[2], it[3]), () -> model.apply(k, it[0], it[1], it[2], it[3]));
        if (!isOneOf(3)) {
            int last = model.state.permits.size() - 1;
            same("grant(" + last + ")", () -> census.grant(last), () -> model.grant(last));
        }
    }

    private String textOf(int kind, int[] n) {
        String use = isOneOf(20) ? "f" : String.valueOf((char) ('a' + Math.floorMod(n[3], 5)));
        switch (kind) {
            case 0:
                return "u" + n[0] + n[1] + "=" + n[2] + use;
            case 1:
                return "s" + n[0] + ":" + n[1];
            case 2:
                return "j" + n[0] + "+" + n[1];
            case 3:
                return "c" + n[0] + ":" + n[1] + (char) ('a' + Math.floorMod(n[2], 5)) + use;
            case 4:
                return "e" + n[0];
            default:
                return "f" + n[0] + "=" + n[1];
        }
    }

    /** Types a text, at times with a sign that is another, left out or put in. */
    private void type(String text) {
        StringBuilder typed = new StringBuilder(text);
        if (isOneOf(3)) {
            String signs = "0123456789abcdefusj:;=+, #NAF@" + (char) 200 + (char) 0x131;
            int place = below(typed.length() + 1);
            int how = below(3);
            if (how == 0 || place == typed.length()) {
                typed.insert(place, signs.charAt(below(signs.length())));
            } else if (how == 1) {
                typed.deleteCharAt(place);
            } else {
                typed.setCharAt(place, signs.charAt(below(signs.length())));
            }
        }
        for (int i = 0; i < typed.length(); i++) {
            char sign = typed.charAt(i);
            same("feed('" + sign + "')", () -> census.feed(sign), () -> model.feed(sign));
        }
    }

    private void other(int style) {
        int day = around(model.state.day + 1);
        switch (below(style == 3 ? 9 : 7)) {
            case 0: {
                int building = isOneOf(3) ? -1 : around(model.state.buildings.size());
                int use = isOneOf(3) ? -1 : around(5);
                boolean isArea = isOneOf(2);
                same("count(" + day + ", " + building + ", " + use + ", " + isArea + ")",
                        () -> census.count(day, building, use, isArea), () -> model.count(day, building, use, isArea));
                same("replayed(" + day + ", " + building + ", " + use + ", " + isArea + ")",
                        () -> census.replayed(day, building, use, isArea), () -> model.count(day, building, use, isArea));
                break;
            }
            case 1:
                told(day);
                break;
            case 2: {
                for (int i = 0; i < (style == 4 ? 9 : 1 + below(3)); i++) {
                    same("undo()", census::undo, model::undo);
                }
                break;
            }
            case 3: {
                int days = style == 6 ? 99 : isOneOf(3) ? around(100) : 1 + below(12);
                same("pass(" + days + ")", () -> census.pass(days), () -> model.pass(days));
                break;
            }
            case 4:
                if (isOneOf(6)) {
                    same("save()", census::save, model::save);
                } else if (isOneOf(6)) {
                    same("restore()", census::restore, model::restore);
                }
                break;
            case 5:
                same("meanArea(" + day + ")", () -> census.meanArea(day), () -> model.meanArea(day));
                break;
            default:
                ask();
                break;
        }
    }

    private void told(int day) {
        StringBuilder text = new StringBuilder();
        for (int i = 0; i < 1 + below(3); i++) {
            int building = Math.floorMod(around(model.state.buildings.size()), 10);
            boolean isKnown = building < model.state.buildings.size() && day >= 0 && day <= model.state.day;
            int units = isKnown ? model.count(day, building, -1, false) : below(3);
            int area = isKnown ? model.count(day, building, -1, true) : below(30);
            text.append(i == 0 ? "" : ";").append(building).append(':').append(units + (isOneOf(9) ? 1 : 0))
                    .append(',').append(area + (isOneOf(9) ? 1 : 0));
        }
        type(text.toString());
        same("check(" + day + ")", () -> census.check(day), () -> model.check(day));
        same("errorPosition()", census::errorPosition, model::errorPosition);
    }

    private void ask() {
        int unit = around(model.state.units.size());
        int other = around(model.state.units.size());
        int building = around(model.state.buildings.size());
        int floor = around(6);
        int permit = around(model.state.permits.size());
        int what = around(15);
        same("unit(" + unit + ", " + what + ")", () -> census.unit(unit, what), () -> model.unit(unit, what));
        same("parent(" + unit + ", " + what + ")", () -> census.parent(unit, what), () -> model.parent(unit, what));
        same("isAncestor(" + unit + ", " + other + ")", () -> census.isAncestor(unit, other),
                () -> model.isAncestor(unit, other));
        same("became(" + unit + ", " + what + ")", () -> census.became(unit, what), () -> model.became(unit, what));
        same("building(" + building + ", " + what + ")", () -> census.building(building, what),
                () -> model.building(building, what));
        same("floor(" + building + ", " + floor + ", " + what + ")", () -> census.floor(building, floor, what),
                () -> model.floor(building, floor, what));
        same("permit(" + permit + ", " + what + ")", () -> census.permit(permit, what), () -> model.permit(permit, what));
        same("total(" + what + ")", () -> census.total(what), () -> model.total(what));
    }

    /** Asks for all that can be asked; these calls do not belong to the run that is told if one is wrong. */
    private void compareAll() {
        int end = calls.length();
        same("fullestDay()", census::fullestDay, model::fullestDay);
        for (int what = -1; what <= 15; what++) {
            int it = what;
            same("total(" + it + ")", () -> census.total(it), () -> model.total(it));
            for (int i = 0; i <= model.state.units.size(); i++) {
                int unit = i;
                same("unit(" + unit + ", " + it + ")", () -> census.unit(unit, it), () -> model.unit(unit, it));
            }
            for (int i = 0; i <= model.state.permits.size() && what <= 8; i++) {
                int permit = i;
                same("permit(" + permit + ", " + it + ")", () -> census.permit(permit, it), () -> model.permit(permit, it));
            }
            for (int i = 0; i <= model.state.buildings.size() && what <= 4; i++) {
                int building = i;
                same("building(" + building + ", " + it + ")", () -> census.building(building, it),
                        () -> model.building(building, it));
                for (int j = 0; j <= 6; j++) {
                    int floor = j;
                    same("floor(" + building + ", " + floor + ", " + it + ")", () -> census.floor(building, floor, it),
                            () -> model.floor(building, floor, it));
                }
            }
            calls.setLength(end);
        }
        compareLines();
        compareCounts();
        calls.setLength(end);
    }

    private void compareLines() {
        int end = calls.length();
        for (int i = 0; i <= model.state.units.size(); i++) {
            int unit = i;
            for (int j = 0; j <= model.state.units.size(); j++) {
                int other = j;
                same("isAncestor(" + unit + ", " + other + ")", () -> census.isAncestor(unit, other),
                        () -> model.isAncestor(unit, other));
            }
            for (int j = -1; j < 4; j++) {
                int index = j;
                same("parent(" + unit + ", " + index + ")", () -> census.parent(unit, index), () -> model.parent(unit, index));
                same("became(" + unit + ", " + index + ")", () -> census.became(unit, index), () -> model.became(unit, index));
            }
            calls.setLength(end);
        }
    }

    private void compareCounts() {
        int step = Math.max(1, model.state.day / 5);
        for (int i = 0; i <= model.state.day; i += step) {
            int day = i;
            for (int building = -1; building <= model.state.buildings.size(); building++) {
                for (int use = -1; use <= 5; use++) {
                    int b = building;
                    int u = use;
                    for (boolean isArea : new boolean[] {true, false}) {
                        same("count(" + day + ", " + b + ", " + u + ", " + isArea + ")",
                                () -> census.count(day, b, u, isArea), () -> model.count(day, b, u, isArea));
                        same("replayed(" + day + ", " + b + ", " + u + ", " + isArea + ")",
                                () -> census.replayed(day, b, u, isArea), () -> model.count(day, b, u, isArea));
                    }
                }
            }
        }
    }
}
