import java.io.IOException;
import java.lang.reflect.Field;
import java.lang.reflect.Method;
import java.lang.reflect.Modifier;
import java.nio.file.Files;
import java.nio.file.Path;
import java.util.ArrayList;
import java.util.Arrays;
import java.util.List;
import java.util.Map;
import java.util.Set;
import java.util.TreeSet;

/** ../shared/LANGUAGE.md: what of its rules 1 to 13 can be seen from the program's text and its face. */
public final class LanguageTest {
    private static final Path SOURCE = Path.of("src/main/java/PlannedPages.java");
    private static final String E = "java.lang.";
    private static final String BOUNDS = E + "IndexOutOfBoundsException";
    private static final String ARGUMENT = E + "IllegalArgumentException";
    private static final String STATE = E + "IllegalStateException";

    private static final String[] FACE = {
        "int PlannedPages.extend() throws " + ARGUMENT + "," + STATE,
        "int PlannedPages.insert(int,int,boolean) throws " + BOUNDS + "," + ARGUMENT + "," + STATE,
        "int PlannedPages.drop(int) throws " + BOUNDS,
        "int PlannedPages.exchange(int,int) throws " + BOUNDS,
        "int PlannedPages.go(int) throws " + ARGUMENT,
        "int PlannedPages.pin(int) throws " + ARGUMENT + "," + STATE,
        "int PlannedPages.frames(int) throws " + ARGUMENT + "," + STATE,
        "int PlannedPages.flush()",
        "int PlannedPages.append(int) throws " + ARGUMENT + "," + STATE,
        "int PlannedPages.clearBuffer()",
        "int PlannedPages.firstError()",
        "int PlannedPages.undo() throws " + STATE,
        "int PlannedPages.ask(int,int) throws " + BOUNDS + "," + ARGUMENT,
        "int PlannedPages.page(int,int) throws " + ARGUMENT,
        "int PlannedPages.frame(int) throws " + BOUNDS,
        "int PlannedPages.count(int) throws " + ARGUMENT,
        "int PlannedPages.victim()",
        "int PlannedPages.byRule(int,int) throws " + ARGUMENT,
        "int PlannedPages.fewestReads()",
        "int PlannedPages.framesFor(int) throws " + ARGUMENT,
        "int PlannedPages.ifDropped(int) throws " + BOUNDS,
        "int PlannedPages.bestPin()",
        "double PlannedPages.hitShare()",
        "long PlannedPages.digest()",
    };

    private static final Due due = new Due();

    public static void main(String[] args) throws IOException {
        face();
        noOtherMember();
        noPrivateNamesake();
        classesInside();
        staticFields();
        sizes();
        text();
        room();
        if (ModuleLayer.boot().findModule("jdk.compiler").isPresent()) {
            trees();
        } else {
            System.out.println("this java has no jdk.compiler: the program's text was not read");
        }
        due.end("LanguageTest");
    }

    private static void trees() throws IOException {
        LanguageScan scan = new LanguageScan();
        scan.read(SOURCE);
        for (int rule = 2; rule <= 13; rule++) {
            due.sentence("rule " + rule);
            due.same("breaches", scan.breaches.getOrDefault(rule, List.of()).toString(), "[]");
        }
        callDepth(scan.callees);
    }

    private static List<Class<?>> classes() {
        List<Class<?>> all = new ArrayList<>(List.of(PlannedPages.class));
        all.addAll(Arrays.asList(PlannedPages.class.getDeclaredClasses()));
        return all;
    }

    private static void face() {
        due.sentence("1. the public constructor, methods and constants of the document");
        Set<String> want = new TreeSet<>();
        for (String method : FACE) {
            want.add("public " + method);
        }
        Set<String> got = new TreeSet<>();
        for (Method method : PlannedPages.class.getDeclaredMethods()) {
            if (Modifier.isPublic(method.getModifiers())) {
                got.add(method.toGenericString());
            }
        }
        due.same("public methods", got.toString(), want.toString());
        due.same("the class", Modifier.toString(PlannedPages.class.getModifiers()), "public final");
        due.same("constructors", Arrays.toString(PlannedPages.class.getDeclaredConstructors()), "[public PlannedPages()]");
        due.is("NONE", PlannedPages.NONE, -1);
    }

    private static void noOtherMember() {
        due.sentence("1. no other public, protected or package-visible member");
        for (Method method : PlannedPages.class.getDeclaredMethods()) {
            int modifiers = method.getModifiers();
            due.is(method.getName(), Modifier.isPublic(modifiers) || Modifier.isPrivate(modifiers) ? 1 : 0, 1);
        }
        for (Field field : PlannedPages.class.getDeclaredFields()) {
            String want = field.getName().equals("NONE") ? "public static final" : "private";
            due.is(field.getName(), Modifier.toString(field.getModifiers()).startsWith(want) ? 1 : 0, 1);
        }
        for (Class<?> inside : PlannedPages.class.getDeclaredClasses()) {
            int modifiers = inside.getModifiers();
            due.is(inside.getName(), Modifier.isStatic(modifiers) && !Modifier.isPublic(modifiers)
                    && !Modifier.isProtected(modifiers) ? 1 : 0, 1);
        }
    }

    private static void noPrivateNamesake() {
        due.sentence("1. No private method bears the name of a public one");
        Set<String> names = new TreeSet<>();
        for (Method method : PlannedPages.class.getDeclaredMethods()) {
            if (Modifier.isPublic(method.getModifiers())) {
                names.add(method.getName());
            }
        }
        for (Class<?> one : classes()) {
            for (Method method : one.getDeclaredMethods()) {
                if (one != PlannedPages.class || !Modifier.isPublic(method.getModifiers())) {
                    due.is(one.getName() + "." + method.getName(), names.contains(method.getName()) ? 1 : 0, 0);
                }
            }
        }
    }

    private static void classesInside() {
        due.sentence("2. static nested classes");
        for (Class<?> inside : PlannedPages.class.getDeclaredClasses()) {
            due.is(inside.getName() + " has classes inside", inside.getDeclaredClasses().length, 0);
        }
    }

    private static void staticFields() {
        due.sentence("5. Static fields are final: constants of int, long, boolean, char or String");
        for (Class<?> one : classes()) {
            for (Field field : one.getDeclaredFields()) {
                if (Modifier.isStatic(field.getModifiers())) {
                    due.is(field.getName() + " is final", Modifier.isFinal(field.getModifiers()) ? 1 : 0, 1);
                    String type = field.getType().getName();
                    due.is(field.getName() + " is of " + type, Set.of("int", "long", "boolean", "char").contains(type)
                            || type.equals("java.lang.String") ? 1 : 0, 1);
                }
            }
        }
    }

    private static void sizes() {
        due.sentence("11. the file has at most some twelve classes, and a class some twenty fields beside its constants");
        due.is("classes", classes().size() <= 12 ? 1 : 0, 1);
        for (Class<?> one : classes()) {
            int fields = 0;
            for (Field field : one.getDeclaredFields()) {
                fields += Modifier.isStatic(field.getModifiers()) ? 0 : 1;
            }
            due.is("fields of " + one.getName(), fields <= 20 ? 1 : 0, 1);
            for (Method method : one.getDeclaredMethods()) {
                due.is("parameters of " + method.getName(), method.getParameterCount() <= 7 ? 1 : 0, 1);
            }
        }
    }

    private static void text() throws IOException {
        due.sentence("4. constants, whose signs are 1 to 127 (and no package line, no library but what it lists)");
        String source = Files.readString(SOURCE);
        due.is("signs beyond 127", source.chars().filter(sign -> sign > 127).count(), 0);
        due.is("package or import lines",
                source.lines().filter(line -> line.startsWith("package ") || line.startsWith("import ")).count(), 0);
    }

    private static void callDepth(Map<String, Set<String>> callees) {
        due.sentence("8, 11. no recursion, and calls go at most eight deep");
        due.is("methods that call others were found", callees.size() > 20 ? 1 : 0, 1);
        for (String method : callees.keySet()) {
            int depth = depth(method, callees, 0);
            due.is("depth of " + method + ", " + depth, depth <= 8 ? 1 : 0, 1);
        }
    }

    private static int depth(String method, Map<String, Set<String>> callees, int above) {
        if (above > 20) {
            return above;
        }
        int deepest = 0;
        for (String callee : callees.getOrDefault(method, Set.of())) {
            deepest = Math.max(deepest, depth(callee, callees, above + 1));
        }
        return deepest + 1;
    }

    private static void room() {
        due.sentence("12. what is kept is counted");
        PlannedPages x = new PlannedPages();
        long[] fresh = held(x);
        due.is("objects of a new one: " + fresh[0], fresh[0] <= 1000 ? 1 : 0, 1);
        due.is("fields and elements of a new one: " + fresh[1], fresh[1] <= 10000 ? 1 : 0, 1);
        for (int i = 0; i < 127; i++) {
            int page = i % 8;
            Due.answer(() -> x.insert(x.count(1), page, true));
            x.go(1);
            x.digest();
        }
        due.same("behind 508 calls", Arrays.toString(held(x)), Arrays.toString(fresh));
    }

    /** How many objects and arrays hang on this one, and their fields and elements in all. */
    private static long[] held(Object root) {
        Map<Object, Boolean> seen = new java.util.IdentityHashMap<>();
        List<Object> open = new ArrayList<>(List.of(root));
        seen.put(root, true);
        long cells = 0;
        while (!open.isEmpty()) {
            List<Object> inside = insideOf(open.remove(open.size() - 1));
            cells += inside.size();
            for (Object one : inside) {
                if (one != null && one.getClass() != Integer.class && seen.put(one, true) == null) {
                    open.add(one);
                }
            }
        }
        return new long[] {seen.size(), cells};
    }

    private static List<Object> insideOf(Object one) {
        List<Object> inside = new ArrayList<>();
        if (one.getClass().isArray()) {
            for (int i = 0; i < java.lang.reflect.Array.getLength(one); i++) {
                inside.add(java.lang.reflect.Array.get(one, i));
            }
            return inside;
        }
        for (Field field : one.getClass().getDeclaredFields()) {
            if (!Modifier.isStatic(field.getModifiers())) {
                field.setAccessible(true);
                try {
                    inside.add(field.get(one));
                } catch (IllegalAccessException e) {
                    due.same("field " + field, "hidden", "seen");
                }
            }
        }
        return inside;
    }
}
