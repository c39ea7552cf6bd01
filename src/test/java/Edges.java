import java.io.IOException;
import java.io.UncheckedIOException;
import java.lang.reflect.InvocationTargetException;
import java.lang.reflect.Method;
import java.nio.file.Files;
import java.nio.file.Path;
import java.util.LinkedHashMap;
import java.util.Map;
import java.util.TreeMap;
import java.util.function.Supplier;
import java.util.regex.Matcher;
import java.util.regex.Pattern;

/**
 * Tests by the sentences of the document: each test names the words that it tests, and at the end all
 * words of the description and of the promises must have been named.
 *
 * Calls and questions are texts like "addBuilding(9)", each asked of an object of its own, so that no
 * object comes near its 512th call.
 */
final class Edges {
    static final String ARGUMENT = "IllegalArgumentException";
    static final String INDEX = "IndexOutOfBoundsException";
    static final String STATE = "IllegalStateException";
    static final String STAGE = "UnsupportedOperationException";
    static final String ELEMENT = "NoSuchElementException";
    static final String ARITHMETIC = "ArithmeticException";

    private static final int QUESTIONS_AN_OBJECT = 250;
    private static final Map<Integer, String> SECTIONS = new TreeMap<>();
    private static final Map<Integer, StringBuilder> UNTESTED = new TreeMap<>();
    private static final Map<String, Method> FACE = new TreeMap<>();
    private static int notedBefore = -1;

    static {
        readDocument();
        for (Method method : BuildingCensus.class.getMethods()) {
            FACE.put(method.getName(), method);
        }
    }

    private Edges() {
    }

    private static void readDocument() {
        String text;
        try {
            text = Files.readString(Path.of("../shared/DOC.md"));
        } catch (IOException e) {
            throw new UncheckedIOException(e);
        }
        Matcher part = Pattern.compile("(?ms)^## (Description|Promise (\\d+):[^\n]*)$(.*?)(?=^## )").matcher(text);
        while (part.find()) {
            int section = part.group(2) == null ? 0 : Integer.parseInt(part.group(2));
            // The signatures are tested by FaceTest; the lines with ----, and that before the promises, only lead on.
            String words = part.group(3).replaceAll("(?m)^(`.*`|---- .*|The constructor and the methods follow.*)$", "").replaceAll("(?m)^- ", "")
                    .replaceAll("\\s+", " ");
            SECTIONS.put(section, words);
            UNTESTED.put(section, new StringBuilder(words));
        }
    }

    /** Begins the test of some words of the description (0), or of a promise. */
    static void sentence(int section, String words) {
        endSentence();
        Due.about((section == 0 ? "Description" : "Promise " + section) + ", \"" + words + "\": ");
        int at = SECTIONS.getOrDefault(section, "").indexOf(words);
        Due.isTrue("the document says this", at >= 0);
        if (at >= 0) {
            UNTESTED.get(section).replace(at, at + words.length(), " ".repeat(words.length()));
        }
        notedBefore = Due.noted();
    }

    private static void endSentence() {
        Due.isTrue("something is tested", notedBefore < Due.noted());
        Due.about("");
    }

    static void end() {
        endSentence();
        Due.is("sections of the document", 30, SECTIONS.size());
        UNTESTED.forEach((section, rest) -> Due.is("words of section " + section + " without a test: "
                + rest.toString().replaceAll("\\s+", " "), 0, rest.toString().trim().length()));
    }

    /** Makes a call, and returns its answer, or the name of its exception. */
    static String ask(BuildingCensus census, String call) {
        int open = call.indexOf('(');
        Method method = FACE.get(call.substring(0, open));
        String inside = call.substring(open + 1, call.length() - 1);
        String[] words = inside.isEmpty() ? new String[0] : inside.split(", ");
        Object[] arguments = new Object[words.length];
        for (int i = 0; i < words.length; i++) {
            arguments[i] = argument(method.getParameterTypes()[i], words[i]);
        }
        try {
            return String.valueOf(method.invoke(census, arguments));
        } catch (InvocationTargetException e) {
            Exception thrown = (Exception) e.getCause();
            return thrown.getClass().getSimpleName() + (Due.isThrownByCensus(thrown) ? "" : " of the machine");
        } catch (IllegalAccessException e) {
            throw new IllegalStateException(e);
        }
    }

    private static Object argument(Class<?> type, String word) {
        if (type == boolean.class) {
            return Boolean.valueOf(word);
        }
        return type == char.class ? (Object) word.charAt(0) : (Object) Integer.valueOf(word);
    }

    /** The call on a new object of this stand has this answer. */
    static void answers(Supplier<BuildingCensus> stand, String call, Object want) {
        String got = ask(stand.get(), call);
        Due.note(got.equals(String.valueOf(want)), call + ": answered " + got + ", due is " + want);
    }

    /** The calls, one after the other on one object, have these answers: call, answer, call, answer .. */
    static void run(BuildingCensus census, Object... callsAndAnswers) {
        for (int i = 0; i < callsAndAnswers.length; i += 2) {
            String got = ask(census, (String) callsAndAnswers[i]);
            String want = String.valueOf(callsAndAnswers[i + 1]);
            Due.note(got.equals(want), callsAndAnswers[i] + ": answered " + got + ", due is " + want);
        }
    }

    /** The call has this answer, or throws this, and leaves everything unchanged. */
    static void leaves(Supplier<BuildingCensus> stand, String call, Object want) {
        leaves(stand, call, want, stand);
    }

    /** The call has this answer, or throws this, and leaves the other stand, apart from these questions and answers. */
    static void leaves(Supplier<BuildingCensus> stand, String call, Object want, Supplier<BuildingCensus> left,
            String... changed) {
        answers(stand, call, want);
        Supplier<BuildingCensus> after = () -> {
            BuildingCensus census = stand.get();
            ask(census, call);
            return census;
        };
        Map<String, String> due = picture(left);
        for (int i = 0; i < changed.length; i += 2) {
            String question = changed[i];
            String answer = changed[i + 1];
            // Where the picture itself reads the input, the error position is the one of that text.
            due.replaceAll((asked, was) -> asked.endsWith("; " + question)
                    && !(question.equals("errorPosition()") && isReading(asked)) ? answer : was);
        }
        same(call, picture(after), due);
    }

    private static void same(String call, Map<String, String> got, Map<String, String> due) {
        int different = 0;
        for (Map.Entry<String, String> each : due.entrySet()) {
            String was = got.get(each.getKey());
            if (!each.getValue().equals(was) && different++ < 3) {
                Due.note(false, "after " + call + ", " + each.getKey() + ": answered " + was + ", due is " + each.getValue());
            }
        }
        Due.note(different == 0 && got.size() == due.size(), "after " + call + ", " + different + " answers are others");
    }

    /** All that can be seen of a stand: as it is, after each undo, after a restore, and by its input. */
    private static Map<String, String> picture(Supplier<BuildingCensus> stand) {
        Map<String, String> answers = new LinkedHashMap<>();
        int changes = stand.get().total(7);
        for (int undos = 0; undos <= changes + 1; undos++) {
            view(answers, stand, "undo(); ".repeat(undos));
        }
        view(answers, stand, "restore(); ");
        view(answers, stand, "applyAll(); ");
        view(answers, stand, "check(0); ");
        return answers;
    }

    private static boolean isReading(String asked) {
        return asked.startsWith("applyAll") || asked.startsWith("check");
    }

    private static void view(Map<String, String> answers, Supplier<BuildingCensus> stand, String steps) {
        BuildingCensus census = null;
        int asked = 0;
        for (String question : questions(after(stand, steps, answers)).split("; ")) {
            if (asked++ % QUESTIONS_AN_OBJECT == 0) {
                census = after(stand, steps, answers);
            }
            answers.put(steps + "; " + question, ask(census, question));
        }
    }

    private static BuildingCensus after(Supplier<BuildingCensus> stand, String steps, Map<String, String> answers) {
        BuildingCensus census = stand.get();
        if (!steps.isEmpty()) {
            for (String step : steps.split("; ")) {
                answers.put(steps, ask(census, step));
            }
        }
        return census;
    }

    private static String questions(BuildingCensus census) {
        StringBuilder all = new StringBuilder("reason(); errorPosition(); fullestDay(); ");
        add(all, "total(", 8, ")");
        for (int building = 0; building <= census.total(1); building++) {
            add(all, "building(" + building + ", ", 3, ")");
            for (int floor = 0; floor < 6; floor++) {
                add(all, "floor(" + building + ", " + floor + ", ", 3, ")");
            }
        }
        for (int unit = 0; unit <= census.total(2); unit++) {
            add(all, "unit(" + unit + ", ", 14, ")");
            add(all, "parent(" + unit + ", ", 1, ")");
            add(all, "became(" + unit + ", ", 1, ")");
            add(all, "isAncestor(0, ", unit, ")");
        }
        for (int permit = 0; permit <= census.total(4); permit++) {
            add(all, "permit(" + permit + ", ", 7, ")");
        }
        for (int day = 0; day <= Math.min(census.total(0), 5); day++) {
            add(all, "count(" + day + ", -1, ", 4, ", true)");
            add(all, "replayed(" + day + ", -1, ", 4, ", false)");
        }
        return all.toString();
    }

    private static void add(StringBuilder all, String before, int last, String after) {
        for (int i = 0; i <= last; i++) {
            all.append(before).append(i).append(after).append("; ");
        }
    }
}
