import com.sun.source.tree.CompilationUnitTree;
import com.sun.source.tree.MethodInvocationTree;
import com.sun.source.tree.MethodTree;
import com.sun.source.tree.NewClassTree;
import com.sun.source.util.JavacTask;
import com.sun.source.util.TreePath;
import com.sun.source.util.TreePathScanner;
import com.sun.source.util.Trees;
import java.lang.reflect.Constructor;
import java.lang.reflect.Field;
import java.lang.reflect.Method;
import java.lang.reflect.Modifier;
import java.nio.file.Files;
import java.nio.file.Path;
import java.util.ArrayList;
import java.util.HashMap;
import java.util.HashSet;
import java.util.List;
import java.util.Map;
import java.util.Set;
import java.util.TreeSet;
import java.util.regex.Matcher;
import java.util.regex.Pattern;
import javax.lang.model.element.Element;
import javax.lang.model.element.TypeElement;
import javax.lang.model.util.ElementFilter;
import javax.tools.JavaCompiler;
import javax.tools.StandardJavaFileManager;
import javax.tools.ToolProvider;

/** The rules of LANGUAGE.md that can be told from the source and the class, and the room that objects and calls take. */
public final class LanguageTest {
    private static final Path SOURCE = Path.of("src/main/java/CakeCalendar.java");
    private static final String FACE = "about apart back by comes end fault feed flour give hide image mice odds of pass played"
        + " saint seat seed seen sister sisterOf slices text undo who";
    private static int wrong = 0;

    public static void main(String[] args) throws Exception {
        String code = bare(Files.readString(SOURCE));
        words(code);
        face();
        classes();
        methodLengths(code);
        calls();
        room();
        System.out.println(wrong == 0 ? "language: all rules are kept" : "language: " + wrong + " breaches");
        if (wrong != 0) {
            System.exit(1);
        }
    }

    private static void rule(int number, boolean kept, String what) {
        if (!kept) {
            wrong++;
            System.out.println("rule " + number + ": " + what);
        }
    }

    /** The source without comments, texts and signs in quotes. */
    private static String bare(String source) {
        return source.replaceAll("(?s)/\\*.*?\\*/", "").replaceAll("//[^\n]*", "")
            .replaceAll("\"(\\\\.|[^\"\\\\])*\"", "\"\"").replaceAll("'(\\\\.|[^'\\\\])'", "' '");
    }

    private static void words(String code) {
        for (String word : List.of("throw", "throws", "try", "catch", "finally", "synchronized", "assert", "volatile", "Object", "double", "float")) {
            rule(6, !Pattern.compile("\\b" + word + "\\b").matcher(code).find(), "the word " + word);
        }
        rule(2, !code.contains("->") && !code.contains("::"), "a lambda or a method reference");
        rule(4, !code.contains("Exact("), "a function whose name ends in Exact");
        Matcher imports = Pattern.compile("import ([^;]*);").matcher(code);
        while (imports.find()) {
            rule(4, Set.of("java.util.Arrays", "java.util.ArrayList", "java.util.List").contains(imports.group(1)), "import " + imports.group(1));
        }
        Matcher calls = Pattern.compile("\\b(System|Math|Arrays|Integer|Long)\\.(\\w+)").matcher(code);
        while (calls.find()) {
            rule(4, Set.of("System.arraycopy", "Math.max", "Math.min", "Math.abs", "Arrays.fill").contains(calls.group()), calls.group());
        }
        rule(5, !code.contains("static {"), "a static block");
    }

    private static void face() {
        Set<String> open = new TreeSet<>();
        for (Method m : CakeCalendar.class.getDeclaredMethods()) {
            if (!Modifier.isPrivate(m.getModifiers())) {
                open.add(m.getName());
                rule(1, Modifier.isPublic(m.getModifiers()), m + " is seen but not public");
            }
        }
        rule(1, open.equals(new TreeSet<>(List.of(FACE.split(" ")))), "the face is " + open);
        rule(1, Modifier.isPublic(CakeCalendar.class.getModifiers()) && Modifier.isFinal(CakeCalendar.class.getModifiers()), "public and final");
        for (Constructor<?> c : CakeCalendar.class.getDeclaredConstructors()) {
            rule(1, Modifier.isPublic(c.getModifiers()) && c.getParameterCount() == 0, c.toString());
        }
        for (Field f : CakeCalendar.class.getDeclaredFields()) {
            rule(1, Modifier.isPrivate(f.getModifiers()) || f.getName().equals("NONE"), f + " is not private");
        }
    }

    private static void classes() {
        List<Class<?>> all = new ArrayList<>(List.of(CakeCalendar.class.getDeclaredClasses()));
        rule(11, all.size() <= 11, all.size() + " classes inside");
        Set<String> face = new TreeSet<>(List.of(FACE.split(" ")));
        for (Class<?> c : all) {
            rule(1, Modifier.isStatic(c.getModifiers()) && !Modifier.isPublic(c.getModifiers()) && !Modifier.isProtected(c.getModifiers()), c.toString());
            for (Method m : c.getDeclaredMethods()) {
                rule(1, !face.contains(m.getName()), m + " bears a public name");
            }
        }
        all.add(CakeCalendar.class);
        for (Class<?> c : all) {
            int fields = 0;
            for (Field f : c.getDeclaredFields()) {
                boolean isStatic = Modifier.isStatic(f.getModifiers());
                fields += isStatic ? 0 : 1;
                rule(5, !isStatic || Modifier.isFinal(f.getModifiers()) && (f.getType() == int.class || f.getType() == String.class), f.toString());
            }
            rule(11, fields <= 20, c + " has " + fields + " fields");
            for (Method m : c.getDeclaredMethods()) {
                rule(11, m.getParameterCount() <= 7, m + " takes too many");
            }
        }
    }

    private static void methodLengths(String code) {
        String[] lines = code.split("\n");
        Pattern head = Pattern.compile("^( {4}| {8})(?=\\S)[\\w\\[\\] ]+\\([^)]*\\) \\{$");
        for (int i = 0; i < lines.length; i++) {
            Matcher m = head.matcher(lines[i]);
            if (m.find()) {
                int end = i;
                while (end < lines.length && !lines[end].equals(m.group(1) + "}")) {
                    end++;
                }
                rule(11, end - i < 60, (end - i) + " lines: " + lines[i]);
            }
        }
    }

    /** Who calls whom, as the compiler sees it: recursion among private methods alone, and all other calls not too deep. */
    private static void calls() throws Exception {
        Map<Element, Set<Element>> called = new HashMap<>();
        JavaCompiler compiler = ToolProvider.getSystemJavaCompiler();
        try (StandardJavaFileManager files = compiler.getStandardFileManager(null, null, null)) {
            JavacTask task = (JavacTask) compiler.getTask(null, files, null, List.of("-proc:none"), null, files.getJavaFileObjects(SOURCE));
            Iterable<? extends CompilationUnitTree> units = task.parse();
            task.analyze();
            for (CompilationUnitTree unit : units) {
                new Callers(Trees.instance(task), called).scan(unit, null);
            }
        }
        called.values().forEach(to -> to.retainAll(called.keySet()));
        Set<Element> round = new HashSet<>();
        for (Element m : called.keySet()) {
            if (reached(m, called).contains(m)) {
                round.add(m);
                rule(8, m.getModifiers().contains(javax.lang.model.element.Modifier.PRIVATE), m + " calls itself, but is not private");
            }
        }
        int deepest = 0;
        for (Element m : called.keySet()) {
            deepest = Math.max(deepest, depth(m, called, round, new HashSet<>()));
        }
        rule(11, deepest <= 8, "calls that are no recursion go " + deepest + " deep");
        // Of the 8 that are open around one another, and of the law around them, each method of the round is open once at most.
        rule(8, deepest + 9 * round.size() < 300, "too many calls stand open at once");
        rule(8, called.size() > 100 && round.size() == 7, "the calls were not found: " + called.size() + ", " + round);
    }

    private static Set<Element> reached(Element from, Map<Element, Set<Element>> called) {
        List<Element> next = new ArrayList<>(called.get(from));
        Set<Element> all = new HashSet<>(next);
        for (int i = 0; i < next.size(); i++) {
            for (Element m : called.get(next.get(i))) {
                if (all.add(m)) {
                    next.add(m);
                }
            }
        }
        return all;
    }

    /** The longest chain of calls from there on, without the methods of the round. */
    private static int depth(Element m, Map<Element, Set<Element>> called, Set<Element> round, Set<Element> open) {
        if (!open.add(m)) {
            return 0;
        }
        int most = 0;
        for (Element to : called.get(m)) {
            most = Math.max(most, depth(to, called, round, open));
        }
        open.remove(m);
        return most + (round.contains(m) ? 0 : 1);
    }

    private static final class Callers extends TreePathScanner<Void, Void> {
        private final Trees trees;
        private final Map<Element, Set<Element>> called;

        Callers(Trees trees, Map<Element, Set<Element>> called) {
            this.trees = trees;
            this.called = called;
        }

        @Override
        public Void visitMethod(MethodTree tree, Void none) {
            called.computeIfAbsent(trees.getElement(getCurrentPath()), m -> new HashSet<>());
            return super.visitMethod(tree, none);
        }

        @Override
        public Void visitMethodInvocation(MethodInvocationTree tree, Void none) {
            note(trees.getElement(new TreePath(getCurrentPath(), tree.getMethodSelect())));
            return super.visitMethodInvocation(tree, none);
        }

        @Override
        public Void visitNewClass(NewClassTree tree, Void none) {
            note(trees.getElement(getCurrentPath()));
            return super.visitNewClass(tree, none);
        }

        /** What stands beside the methods, the first values of fields, is the constructor's. */
        private void note(Element to) {
            for (TreePath p = getCurrentPath(); p != null; p = p.getParentPath()) {
                Element around = p.getLeaf() instanceof MethodTree ? trees.getElement(p) : null;
                if (trees.getElement(p) instanceof TypeElement type && p.getLeaf() instanceof com.sun.source.tree.ClassTree) {
                    around = ElementFilter.constructorsIn(type.getEnclosedElements()).get(0);
                }
                if (around != null) {
                    called.computeIfAbsent(around, m -> new HashSet<>()).add(to);
                    return;
                }
            }
        }
    }

    /** An object is made once; its calls make nothing more, so that a run stays in its room. */
    private static void room() throws Exception {
        int made = 0;
        int slots = 0;
        List<Object> seen = new ArrayList<>();
        seen.add(new CakeCalendar());
        for (int i = 0; i < seen.size(); i++) {
            Object o = seen.get(i);
            made++;
            if (o.getClass().isArray()) {
                slots += java.lang.reflect.Array.getLength(o);
                for (int k = 0; !o.getClass().getComponentType().isPrimitive() && k < java.lang.reflect.Array.getLength(o); k++) {
                    addNew(seen, java.lang.reflect.Array.get(o, k));
                }
                continue;
            }
            for (Field f : o.getClass().getDeclaredFields()) {
                if (!Modifier.isStatic(f.getModifiers())) {
                    slots++;
                    f.setAccessible(true);
                    if (!f.getType().isPrimitive()) {
                        addNew(seen, f.get(o));
                    }
                }
            }
        }
        System.out.println("an object takes " + made + " objects and arrays, " + slots + " fields and elements");
        rule(12, made <= 60 && slots <= 8000, "an object is too large");
        callsMakeNothing();
    }

    private static void addNew(List<Object> seen, Object o) {
        if (o == null) {
            return;
        }
        for (Object s : seen) {
            if (s == o) {
                return;
            }
        }
        seen.add(o);
    }

    private static void callsMakeNothing() {
        com.sun.management.ThreadMXBean bean = (com.sun.management.ThreadMXBean) java.lang.management.ManagementFactory.getThreadMXBean();
        long id = Thread.currentThread().getId();
        CakeCalendar x = new CakeCalendar();
        for (int i = 0; i < 3; i++) {
            dearCalls(x);
        }
        bean.getThreadAllocatedBytes(id);
        long before = bean.getThreadAllocatedBytes(id);
        dearCalls(x);
        long bytes = bean.getThreadAllocatedBytes(id) - before;
        rule(12, bytes < 2000, "calls made " + bytes + " bytes");
    }

    private static void dearCalls(CakeCalendar x) {
        x.back();
        for (int i = 0; i < 6; i++) {
            x.sister(3 + i);
            x.seat(i, i % 3);
        }
        x.feed(0x65617473, 0x20696620, 0x6c656674, 0x3e333f61, 0x70706574);
        x.feed(0x6974653a, 0x6c656674, 0x20656e64, 0x3b736561, 0x74203020);
        x.feed(0x61742032, 0x3b706173, 0x73203330, 0x3b202020, 0x20202020);
        x.text();
        x.by(0);
        x.played(0);
        x.mice(5);
        x.pass(50);
        x.hide(0, 1);
        x.give(0, 1);
        x.seen(7);
        for (int t = 0; t < 2; t++) {
            x.comes(t, 60, true);
            x.odds(t, x.of(t, 0) + 3, 15, 0);
            x.saint(t, x.of(t, 0) + 3, 30, 0);
            x.who(t, 5, -1);
            x.flour(t, 0, 999);
            x.sisterOf(t, 2);
        }
        x.apart(60);
        x.undo();
        x.about(3);
        x.fault(0);
    }
}
