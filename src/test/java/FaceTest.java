import java.io.IOException;
import java.lang.management.ManagementFactory;
import java.lang.reflect.Constructor;
import java.lang.reflect.Field;
import java.lang.reflect.Method;
import java.lang.reflect.Modifier;
import java.nio.file.Files;
import java.nio.file.Path;
import java.util.ArrayList;
import java.util.List;
import java.util.Set;
import java.util.TreeSet;
import java.util.regex.Pattern;

/** The public face of the document, and those rules of LANGUAGE.md that can be looked up. */
public final class FaceTest {
    private static final String[] FACE = {
        "int addBuilding(int) IllegalArgumentException IllegalStateException",
        "int building(int, int) IndexOutOfBoundsException IllegalArgumentException",
        "int floor(int, int, int) IndexOutOfBoundsException IllegalArgumentException",
        "int unit(int, int) IndexOutOfBoundsException IllegalArgumentException",
        "int parent(int, int) IndexOutOfBoundsException NoSuchElementException",
        "boolean isAncestor(int, int) IndexOutOfBoundsException",
        "int became(int, int) IndexOutOfBoundsException NoSuchElementException",
        "int apply(int, int, int, int, int) IllegalArgumentException IllegalStateException",
        "int applyAll() IllegalArgumentException IllegalStateException",
        "int grant(int) IndexOutOfBoundsException UnsupportedOperationException IllegalStateException",
        "int refuse(int) IndexOutOfBoundsException UnsupportedOperationException",
        "int begin(int) IndexOutOfBoundsException UnsupportedOperationException",
        "int finish(int) IndexOutOfBoundsException UnsupportedOperationException",
        "int withdraw(int) IndexOutOfBoundsException UnsupportedOperationException",
        "int permit(int, int) IndexOutOfBoundsException IllegalArgumentException",
        "int reason() NoSuchElementException",
        "int pass(int) IllegalArgumentException IllegalStateException",
        "int count(int, int, int, boolean) IndexOutOfBoundsException IllegalArgumentException",
        "int replayed(int, int, int, boolean) IndexOutOfBoundsException IllegalArgumentException",
        "double meanArea(int) IllegalArgumentException ArithmeticException",
        "int fullestDay()",
        "int check(int) IllegalArgumentException",
        "int feed(char) IllegalStateException",
        "int errorPosition() NoSuchElementException",
        "int total(int) IllegalArgumentException",
        "int undo() IllegalStateException",
        "int save()",
        "int restore() IllegalStateException",
    };

    public static void main(String[] args) throws IOException {
        face();
        members();
        source();
        room();
        Due.end();
    }

    private static void face() {
        Set<String> got = new TreeSet<>();
        for (Method method : BuildingCensus.class.getDeclaredMethods()) {
            if (!Modifier.isPrivate(method.getModifiers())) {
                got.add(Modifier.toString(method.getModifiers()) + " " + signature(method));
            }
        }
        Set<String> want = new TreeSet<>();
        for (String method : FACE) {
            want.add("public " + method);
        }
        Due.note(got.equals(want), "the face is " + got + ", due is " + want);
        Due.is("class", Modifier.PUBLIC | Modifier.FINAL, BuildingCensus.class.getModifiers());
        Constructor<?>[] constructors = BuildingCensus.class.getDeclaredConstructors();
        Due.is("constructors", 1, constructors.length);
        Due.isTrue("the constructor is public", Modifier.isPublic(constructors[0].getModifiers()));
        Due.is("its parameters", 0, constructors[0].getParameterCount());
    }

    private static String signature(Method method) {
        StringBuilder text = new StringBuilder(method.getReturnType() + " " + method.getName() + "(");
        for (int i = 0; i < method.getParameterCount(); i++) {
            text.append(i == 0 ? "" : ", ").append(method.getParameterTypes()[i]);
        }
        text.append(")");
        for (Class<?> type : method.getExceptionTypes()) {
            text.append(" ").append(type.getSimpleName());
        }
        return text.toString();
    }

    private static void members() {
        Set<String> names = new TreeSet<>();
        for (String method : FACE) {
            names.add(method.substring(method.indexOf(' ') + 1, method.indexOf('(')));
        }
        List<Class<?>> classes = new ArrayList<>(List.of(BuildingCensus.class.getDeclaredClasses()));
        Due.isTrue("rule 11: classes", classes.size() < 12);
        for (Class<?> inside : classes) {
            Due.isTrue("rule 1: " + inside, !Modifier.isPublic(inside.getModifiers()));
            Due.isTrue("rule 2: " + inside, Modifier.isStatic(inside.getModifiers()));
            for (Method method : inside.getDeclaredMethods()) {
                Due.isTrue("rule 1: the name of " + method, !names.contains(method.getName()));
                Due.isTrue("rule 11: parameters of " + method, method.getParameterCount() <= 7);
            }
        }
        classes.add(BuildingCensus.class);
        for (Class<?> each : classes) {
            int fields = 0;
            for (Field field : each.getDeclaredFields()) {
                boolean isStatic = Modifier.isStatic(field.getModifiers());
                Due.isTrue("rule 1: " + field, Modifier.isPrivate(field.getModifiers()));
                Due.isTrue("rule 5: " + field, !isStatic || Modifier.isFinal(field.getModifiers()));
                fields += isStatic ? 0 : 1;
            }
            Due.isTrue("rule 11: fields of " + each, fields <= 20);
        }
        for (Method method : BuildingCensus.class.getDeclaredMethods()) {
            boolean isPrivate = Modifier.isPrivate(method.getModifiers());
            Due.isTrue("rule 1: the name of " + method, isPrivate != names.contains(method.getName()));
        }
    }

    private static void source() throws IOException {
        String text = Files.readString(Path.of("src/main/java/BuildingCensus.java"));
        String code = text.replaceAll("(?s)/\\*.*?\\*/", "").replaceAll("//[^\n]*", "").replaceAll("\"[^\"\n]*\"", "\"\"");
        String[] ruledOut = {"->", "::", "\\btry\\b", "\\bcatch\\b", "\\bfinally\\b", "\\bassert\\b", "\\bsynchronized\\b",
            "\\binstanceof\\b", "\\bpackage\\b", "\\bvar\\b", "\\bnative\\b", "\\bwhile\\s*\\(true", "\\bjava\\.(?!util\\.NoSuch)",
            "\\bSystem\\.(?!arraycopy)", "\\bMath\\.(?!min|max)", "Exact\\b", "\\bObjects\\b", "\" *\\+|\\+ *\""};
        for (String pattern : ruledOut) {
            Due.isTrue("LANGUAGE.md rules out " + pattern, !Pattern.compile(pattern).matcher(code).find());
        }
        int begin = 0;
        int line = 0;
        for (String each : code.split("\n", -1)) {
            line++;
            if (each.matches("\\s+(public|private)?.*\\) ?(throws .*)?\\{")
                    && !each.matches("\\s*(\\}|if|for|while|switch|else).*")) {
                begin = line;
            }
            Due.isTrue("rule 11: the method at " + begin, begin == 0 || !each.matches(" {4,8}\\}") || line - begin <= 60);
        }
    }

    /** A run's objects are counted: none may be made after the constructor, but for exceptions. */
    private static void room() {
        com.sun.management.ThreadMXBean bean = (com.sun.management.ThreadMXBean) ManagementFactory.getThreadMXBean();
        long thread = Thread.currentThread().getId();
        new BuildingCensus();
        calls(new BuildingCensus());
        long before = bean.getThreadAllocatedBytes(thread);
        BuildingCensus census = new BuildingCensus();
        long made = bean.getThreadAllocatedBytes(thread);
        calls(census);
        long after = bean.getThreadAllocatedBytes(thread);
        // What measuring makes itself is in this, too.
        Due.isTrue("room: bytes of a new object: " + (made - before), made - before < 80_000);
        Due.isTrue("room: bytes of the calls: " + (after - made), after - made < 2_000);
    }

    private static void calls(BuildingCensus census) {
        census.addBuilding(900);
        for (int i = 0; i < 12; i++) {
            int unit = i == 0 ? Due.carry(census, 0, 0, 0, 500, 1) : 2 * i;
            Due.carry(census, 1, unit, 10, 0, 0);
            census.pass(40);
            census.replayed(5, -1, -1, true);
            census.isAncestor(0, 2);
            census.became(0, 0);
            census.fullestDay();
            census.meanArea(0);
            census.undo();
            census.save();
            Due.type(census, APPLICATIONS);
            census.applyAll();
            Due.type(census, TOLD);
            census.check(0);
            census.undo();
            census.restore();
        }
    }

    private static final String APPLICATIONS = "e1;u00=33a";
    private static final String TOLD = "0:1,5;1:0,0";
}
