import java.util.ArrayDeque;
import java.util.ArrayList;
import java.util.Deque;
import java.util.List;
import java.util.NoSuchElementException;
import java.util.TreeSet;
import java.util.regex.Matcher;
import java.util.regex.Pattern;

/**
 * The document once more, written from its words with the Java library and without a thought of speed:
 * objects that know their parents, whole copies, and error positions by trying every beginning of a text.
 */
final class Model {
    static final Pattern APPLICATIONS;
    static final Pattern TOLD;

    static {
        String n = "(\\d{1,3})";
        String application = "(?:u(\\d)(\\d)=" + n + "([a-e])|s" + n + ":" + n + "|j" + n + "\\+" + n + "|c" + n + ":" + n
                + "([a-e])([a-e])|e" + n + "|f(\\d)=" + n + ")";
        String told = "(?:(\\d):" + n + "," + n + ")";
        APPLICATIONS = Pattern.compile(application + "(?:;" + application + ")*", Pattern.DOTALL);
        TOLD = Pattern.compile(told + "(?:;" + told + ")*", Pattern.DOTALL);
    }

    static final class Unit {
        int building;
        int floor;
        int came;
        int ended = -1;
        int permit;
        int[] areas = new int[5];
        TreeSet<Integer> parents = new TreeSet<>();

        int area() {
            int sum = 0;
            for (int area : areas) {
                sum += area;
            }
            return sum;
        }

        boolean isThere(int day) {
            return came <= day && !(ended >= 0 && ended <= day);
        }

        Unit copy() {
            Unit unit = new Unit();
            unit.building = building;
            unit.floor = floor;
            unit.came = came;
            unit.ended = ended;
            unit.permit = permit;
            unit.areas = areas.clone();
            unit.parents.addAll(parents);
            return unit;
        }
    }

    static final class Permit {
        int kind;
        int[] numbers;
        int stage;
        int day;

        Permit copy() {
            Permit permit = new Permit();
            permit.kind = kind;
            permit.numbers = numbers.clone();
            permit.stage = stage;
            permit.day = day;
            return permit;
        }

        boolean isOpen() {
            return stage == 1 || stage == 2;
        }

        List<Integer> units() {
            List<Integer> told = new ArrayList<>();
            if (kind >= 1 && kind <= 4) {
                told.add(numbers[0]);
            }
            if (kind == 2) {
                told.add(numbers[1]);
            }
            return told;
        }

        int newUnits() {
            return new int[] {1, 2, 1, 1, 0, 0}[kind];
        }
    }

    static final class State {
        int day;
        List<List<Integer>> buildings = new ArrayList<>();
        List<Unit> units = new ArrayList<>();
        List<Permit> permits = new ArrayList<>();

        State copy() {
            State state = new State();
            state.day = day;
            buildings.forEach(floors -> state.buildings.add(new ArrayList<>(floors)));
            units.forEach(unit -> state.units.add(unit.copy()));
            permits.forEach(permit -> state.permits.add(permit.copy()));
            return state;
        }
    }

    State state = new State();
    State saved;
    final Deque<State> past = new ArrayDeque<>();
    String input = "";
    Integer reason;
    Integer error;

    private void change() {
        past.push(state.copy());
        if (past.size() > 8) {
            past.removeLast();
        }
    }

    private static void argument(boolean isRight) {
        if (!isRight) {
            throw new IllegalArgumentException();
        }
    }

    private static void index(boolean isRight) {
        if (!isRight) {
            throw new IndexOutOfBoundsException();
        }
    }

    private static void state(boolean isRight) {
        if (!isRight) {
            throw new IllegalStateException();
        }
    }

    private static void element(boolean isRight) {
        if (!isRight) {
            throw new NoSuchElementException();
        }
    }

    private boolean isBuilding(int building) {
        return building >= 0 && building < state.buildings.size();
    }

    private boolean isFloor(int building, int floor) {
        return isBuilding(building) && floor >= 0 && floor < state.buildings.get(building).size();
    }

    private boolean isUnit(int unit) {
        return unit >= 0 && unit < state.units.size();
    }

    private boolean isPresent(int unit) {
        return isUnit(unit) && state.units.get(unit).ended < 0;
    }

    private Permit permitOf(int permit) {
        index(permit >= 0 && permit < state.permits.size());
        return state.permits.get(permit);
    }

    private Unit unitOf(int unit) {
        index(isUnit(unit));
        return state.units.get(unit);
    }

    int addBuilding(int area) {
        argument(area >= 10 && area <= 999);
        state(state.buildings.size() < 4);
        change();
        state.buildings.add(new ArrayList<>(List.of(area)));
        return state.buildings.size() - 1;
    }

    private List<Unit> presentOn(int building, Integer floor) {
        return state.units.stream()
                .filter(unit -> unit.ended < 0 && unit.building == building && (floor == null || unit.floor == floor))
                .toList();
    }

    private static int areaOf(List<Unit> units) {
        return units.stream().mapToInt(Unit::area).sum();
    }

    int building(int building, int what) {
        index(isBuilding(building));
        argument(what >= 0 && what <= 3);
        List<Integer> floors = state.buildings.get(building);
        List<Unit> units = presentOn(building, null);
        return List.of(floors.size(), floors.stream().mapToInt(i -> i).sum(), units.size(), areaOf(units)).get(what);
    }

    int floor(int building, int floor, int what) {
        index(isFloor(building, floor));
        argument(what >= 0 && what <= 3);
        int area = state.buildings.get(building).get(floor);
        List<Unit> units = presentOn(building, floor);
        int room = area - areaOf(units);
        int promised = state.permits.stream()
                .filter(p -> p.isOpen() && p.kind == 0 && p.numbers[0] == building && p.numbers[1] == floor)
                .mapToInt(p -> p.numbers[2]).sum();
        return List.of(area, room, units.size(), room - promised).get(what);
    }

    private int generation(int unit) {
        int generation = 0;
        for (int parent : state.units.get(unit).parents) {
            generation = Math.max(generation, generation(parent) + 1);
        }
        return generation;
    }

    int unit(int unit, int what) {
        Unit it = unitOf(unit);
        argument(what >= 0 && what <= 7 || what >= 10 && what <= 14);
        return what >= 10 ? it.areas[what - 10] : List.of(it.building, it.floor, it.area(), it.came, it.ended,
                generation(unit), it.parents.size(), it.permit).get(what);
    }

    int parent(int unit, int index) {
        List<Integer> parents = new ArrayList<>(unitOf(unit).parents);
        element(index >= 0 && index < parents.size());
        return parents.get(index);
    }

    private boolean hasAncestor(int unit, int ancestor) {
        for (int parent : state.units.get(unit).parents) {
            if (parent == ancestor || hasAncestor(parent, ancestor)) {
                return true;
            }
        }
        return false;
    }

    boolean isAncestor(int unit, int other) {
        unitOf(unit);
        unitOf(other);
        return hasAncestor(other, unit);
    }

    int became(int unit, int index) {
        unitOf(unit);
        List<Integer> heirs = new ArrayList<>();
        for (int heir = 0; heir < state.units.size(); heir++) {
            if (isPresent(heir) && (heir == unit || hasAncestor(heir, unit))) {
                heirs.add(heir);
            }
        }
        element(index >= 0 && index < heirs.size());
        return heirs.get(index);
    }

    private static boolean isIn(int number, int lowest, int highest) {
        return number >= lowest && number <= highest;
    }

    private static boolean isRightApplication(int kind, int one, int two, int three, int four) {
        switch (kind) {
            case 0:
                return isIn(one, 0, 9) && isIn(two, 0, 9) && isIn(three, 1, 999) && isIn(four, 0, 4);
            case 1:
                return isIn(one, 0, 999) && isIn(two, 1, 999) && three == 0 && four == 0;
            case 2:
                return isIn(one, 0, 999) && isIn(two, 0, 999) && three == 0 && four == 0;
            case 3:
                return isIn(one, 0, 999) && isIn(two, 1, 999) && isIn(three, 0, 4) && isIn(four, 0, 4);
            case 4:
                return isIn(one, 0, 999) && two == 0 && three == 0 && four == 0;
            case 5:
                return isIn(one, 0, 9) && isIn(two, 10, 999) && three == 0 && four == 0;
            default:
                return false;
        }
    }

    private void addPermit(int kind, int... numbers) {
        Permit permit = new Permit();
        permit.kind = kind;
        permit.numbers = numbers;
        permit.day = state.day;
        state.permits.add(permit);
    }

    int apply(int kind, int one, int two, int three, int four) {
        argument(isRightApplication(kind, one, two, three, four));
        state(state.permits.size() < 40);
        change();
        addPermit(kind, one, two, three, four);
        return state.permits.size() - 1;
    }

    /** Returns -1 if the text has the form, otherwise the first position at which it cannot be continued. */
    static int errorOf(Pattern form, String text) {
        for (int length = 0; length <= text.length(); length++) {
            Matcher matcher = form.matcher(text.substring(0, length));
            boolean isWhole = matcher.matches();
            if (!isWhole && !matcher.hitEnd()) {
                return length - 1;
            }
            if (!isWhole && length == text.length()) {
                return length;
            }
        }
        return -1;
    }

    private String read(Pattern form) {
        String text = input;
        input = "";
        int position = errorOf(form, text);
        if (position >= 0) {
            error = position;
        }
        argument(position < 0);
        return text;
    }

    int applyAll() {
        List<int[]> all = new ArrayList<>();
        for (String one : read(APPLICATIONS).split(";")) {
            int kind = "usjcef".indexOf(one.charAt(0));
            int[] numbers = new int[4];
            Matcher parts = Pattern.compile(kind == 0 || kind == 5 ? "(?<=^.|^u\\d)\\d|\\d+|[a-e]$" : "\\d+|[a-e]")
                    .matcher(one);
            parts.region(1, one.length()).useTransparentBounds(true).useAnchoringBounds(false);
            for (int i = 0; parts.find(); i++) {
                char first = parts.group().charAt(0);
                numbers[i] = first >= 'a' ? first - 'a' : Integer.parseInt(parts.group());
            }
            all.add(new int[] {kind, numbers[0], numbers[1], numbers[2], numbers[3]});
        }
        for (int[] one : all) {
            argument(isRightApplication(one[0], one[1], one[2], one[3], one[4]));
        }
        state(state.permits.size() + all.size() <= 40);
        change();
        all.forEach(one -> addPermit(one[0], one[1], one[2], one[3], one[4]));
        return all.size();
    }

    private int reasonFor(Permit permit) {
        int one = permit.numbers[0];
        int two = permit.numbers[1];
        List<Permit> open = state.permits.stream().filter(Permit::isOpen).toList();
        if (permit.kind == 0 && !isFloor(one, two) || permit.kind == 5 && !isBuilding(one)
                || !permit.units().stream().allMatch(this::isPresent)) {
            return 1;
        }
        if (permit.kind == 2) {
            Unit first = state.units.get(one);
            Unit second = state.units.get(two);
            if (one == two || first.building != second.building || first.floor != second.floor) {
                return 1;
            }
        }
        if (open.stream().anyMatch(other -> other.units().stream().anyMatch(permit.units()::contains))) {
            return 2;
        }
        if (permit.kind == 0 && permit.numbers[2] > floor(one, two, 3)) {
            return 3;
        }
        if (permit.kind == 1 && two >= state.units.get(one).area()
                || permit.kind == 3 && two > state.units.get(one).areas[permit.numbers[2]]) {
            return 4;
        }
        int units = state.units.size() + permit.newUnits() + open.stream().mapToInt(Permit::newUnits).sum();
        if (units > 60) {
            return 5;
        }
        if (permit.kind == 5) {
            long floors = state.buildings.get(one).size() + 1
                    + open.stream().filter(other -> other.kind == 5 && other.numbers[0] == one).count();
            return floors > 6 ? 5 : 0;
        }
        return 0;
    }

    private Permit atStage(int permit, int lowest, int highest) {
        Permit it = permitOf(permit);
        if (it.stage < lowest || it.stage > highest) {
            throw new UnsupportedOperationException();
        }
        return it;
    }

    private void setStage(int permit, int stage) {
        change();
        Permit it = state.permits.get(permit);
        it.stage = stage;
        it.day = state.day;
    }

    int grant(int permit) {
        int why = reasonFor(atStage(permit, 0, 0));
        if (why != 0) {
            reason = why;
        }
        state(why == 0);
        setStage(permit, 1);
        return total(5);
    }

    int refuse(int permit) {
        int why = reasonFor(atStage(permit, 0, 0));
        setStage(permit, 4);
        return why;
    }

    int begin(int permit) {
        int days = state.day - atStage(permit, 1, 1).day;
        setStage(permit, 2);
        return days;
    }

    private Unit end(int unit) {
        Unit it = state.units.get(unit);
        it.ended = state.day;
        return it;
    }

    private Unit come(int permit, int building, int floor, int... parents) {
        Unit unit = new Unit();
        unit.building = building;
        unit.floor = floor;
        unit.came = state.day;
        unit.permit = permit;
        for (int parent : parents) {
            unit.parents.add(parent);
        }
        state.units.add(unit);
        return unit;
    }

    int finish(int permit) {
        atStage(permit, 2, 2);
        setStage(permit, 3);
        Permit it = state.permits.get(permit);
        int one = it.numbers[0];
        int two = it.numbers[1];
        int next = state.units.size();
        switch (it.kind) {
            case 0:
                come(permit, one, two).areas[it.numbers[3]] = it.numbers[2];
                return next;
            case 1: {
                Unit old = end(one);
                int[] first = share(old.areas, two);
                come(permit, old.building, old.floor, one).areas = first;
                Unit second = come(permit, old.building, old.floor, one);
                for (int use = 0; use < 5; use++) {
                    second.areas[use] = old.areas[use] - first[use];
                }
                return next;
            }
            case 2: {
                Unit first = end(one);
                Unit second = end(two);
                Unit joined = come(permit, first.building, first.floor, one, two);
                for (int use = 0; use < 5; use++) {
                    joined.areas[use] = first.areas[use] + second.areas[use];
                }
                return next;
            }
            case 3: {
                Unit old = end(one);
                Unit changed = come(permit, old.building, old.floor, one);
                changed.areas = old.areas.clone();
                changed.areas[it.numbers[2]] -= two;
                changed.areas[it.numbers[3]] += two;
                return next;
            }
            case 4:
                end(one);
                return -1;
            default:
                state.buildings.get(one).add(two);
                return state.buildings.get(one).size() - 1;
        }
    }

    private static int[] share(int[] areas, int part) {
        int whole = 0;
        for (int area : areas) {
            whole += area;
        }
        int[] first = new int[5];
        List<Integer> uses = new ArrayList<>(List.of(0, 1, 2, 3, 4));
        int sum = 0;
        for (int use = 0; use < 5; use++) {
            first[use] = areas[use] * part / whole;
            sum += first[use];
        }
        int all = whole;
        uses.sort((a, b) -> areas[b] * part % all - areas[a] * part % all);
        for (int i = 0; sum < part; i++) {
            first[uses.get(i)]++;
            sum++;
        }
        return first;
    }

    int withdraw(int permit) {
        int stage = atStage(permit, 0, 2).stage;
        setStage(permit, 6);
        return stage;
    }

    int permit(int permit, int what) {
        Permit it = permitOf(permit);
        argument(what >= 0 && what <= 7);
        return what == 7 ? (it.stage == 0 ? reasonFor(it) : 0)
                : List.of(it.kind, it.numbers[0], it.numbers[1], it.numbers[2], it.numbers[3], it.stage, it.day).get(what);
    }

    int reason() {
        element(reason != null);
        return reason;
    }

    int pass(int days) {
        argument(days >= 1 && days <= 99);
        state(state.day + days <= 9999);
        change();
        int lapsed = 0;
        for (Permit permit : state.permits) {
            if (permit.stage == 1 && permit.day + 31 <= state.day + days) {
                permit.stage = 5;
                permit.day += 31;
                lapsed++;
            }
        }
        state.day += days;
        return lapsed;
    }

    int count(int day, int building, int use, boolean isArea) {
        index(building == -1 || isBuilding(building));
        index(use >= -1 && use <= 4);
        argument(day >= 0 && day <= state.day);
        List<Unit> there = state.units.stream()
                .filter(unit -> unit.isThere(day) && (building == -1 || unit.building == building))
                .filter(unit -> use == -1 || unit.areas[use] > 0)
                .toList();
        return !isArea ? there.size() : use == -1 ? areaOf(there) : there.stream().mapToInt(unit -> unit.areas[use]).sum();
    }

    double meanArea(int day) {
        argument(day >= 0 && day <= state.day);
        if (count(day, -1, -1, false) == 0) {
            throw new ArithmeticException();
        }
        return (double) count(day, -1, -1, true) / (double) count(day, -1, -1, false);
    }

    int fullestDay() {
        int best = 0;
        int most = 0;
        for (int day = 0; day <= state.day; day++) {
            int there = 0;
            for (Unit unit : state.units) {
                there += unit.isThere(day) ? 1 : 0;
            }
            if (there > most) {
                most = there;
                best = day;
            }
        }
        return best;
    }

    int check(int day) {
        if (day < 0 || day > state.day) {
            input = "";
        }
        argument(day >= 0 && day <= state.day);
        String[] told = read(TOLD).split(";");
        for (int i = 0; i < told.length; i++) {
            String[] parts = told[i].split("[:,]");
            int building = Integer.parseInt(parts[0]);
            if (!isBuilding(building) || count(day, building, -1, false) != Integer.parseInt(parts[1])
                    || count(day, building, -1, true) != Integer.parseInt(parts[2])) {
                return i;
            }
        }
        return -1;
    }

    int feed(char character) {
        state(input.length() < 60);
        input += character;
        return input.length();
    }

    int errorPosition() {
        element(error != null);
        return error;
    }

    int total(int what) {
        argument(what >= 0 && what <= 8);
        return List.of(state.day, state.buildings.size(), state.units.size(),
                (int) state.units.stream().filter(unit -> unit.ended < 0).count(), state.permits.size(),
                (int) state.permits.stream().filter(Permit::isOpen).count(),
                (int) state.permits.stream().filter(permit -> permit.stage == 3).count(), past.size(),
                input.length()).get(what);
    }

    int undo() {
        state(!past.isEmpty());
        state = past.pop();
        return past.size();
    }

    int save() {
        saved = state.copy();
        return total(3);
    }

    int restore() {
        state(saved != null);
        state = saved.copy();
        past.clear();
        return total(3);
    }
}
