import java.lang.management.ManagementFactory;
import java.lang.reflect.Constructor;
import java.lang.reflect.Field;
import java.lang.reflect.Method;
import java.lang.reflect.Modifier;
import java.nio.file.Files;
import java.nio.file.Path;
import java.util.Arrays;
import java.util.Set;
import java.util.TreeSet;
import java.util.regex.Matcher;
import java.util.regex.Pattern;

/** What LANGUAGE.md asks of the source, as far as a plain look can tell; the source's path is the argument. */
public final class RulesTest {
    private static final Set<String> FACE = new TreeSet<>(Arrays.asList(
        "open(int,int,int,int)", "close(int)", "arrange(int,int,int,int)", "pane(int,int)", "pair(int,int)", "root()",
        "resize(int,int)", "sign(int,int)", "style(int,int)", "link(int,int)", "cursor(int,int,int)", "at(int,int)",
        "wipe(int)", "picture(int,int)", "shown(int,int,int,int)", "lines(int)", "drawn(int,int)", "under(int,int)",
        "ask(int,int,int)", "cancel(int,int)", "echo(int,boolean)", "type(int,int)", "click(int,int)", "take()",
        "event(int)", "count(int)"));
    private static final String[] RULED_OUT = {"throw", "throws", "try", "catch", "finally", "synchronized", "assert",
        "hashCode", "toString", "->", "::", "Exact", "Random", "Thread", "System\\.(?!arraycopy)", "@SuppressWarnings",
        "Object", "Exception", "HashMap", "native", "volatile", "package"};

    /** The part of LANGUAGE.md's library that the program needs. */
    private static final Set<String> LIBRARY = Set.of("java/lang/Math.max", "java/lang/Math.min",
        "java/lang/System.arraycopy", "java/util/Arrays.fill", "java/lang/Object.<init>");

    public static void main(String[] args) throws Exception {
        face();
        classesInside();
        library();
        source(args.length > 0 ? args[0] : "src/main/java/GlkPanes.java");
        room();
        Due.end();
    }

    private static void face() {
        int mods = GlkPanes.class.getModifiers();
        Due.isTrue("public and final", Modifier.isPublic(mods) && Modifier.isFinal(mods));
        Set<String> names = new TreeSet<>();
        Set<String> seen = new TreeSet<>();
        for (String f : FACE) {
            names.add(f.substring(0, f.indexOf('(')));
        }
        for (Method m : GlkPanes.class.getDeclaredMethods()) {
            if (Modifier.isPrivate(m.getModifiers())) {
                Due.isTrue("private " + m.getName() + " bears no public name", !names.contains(m.getName()));
            } else {
                Due.isTrue(m + " is public, of int, not static", m.getReturnType() == int.class
                    && m.getModifiers() == Modifier.PUBLIC);
                seen.add(signature(m));
            }
        }
        Due.isTrue("the methods are " + seen, seen.equals(FACE));
        Constructor<?>[] made = GlkPanes.class.getDeclaredConstructors();
        Due.is("constructors", made.length, 1);
        Due.isTrue("its arguments", Arrays.equals(made[0].getParameterTypes(), new Class<?>[] {int.class, int.class}));
        Due.isTrue("it is public", Modifier.isPublic(made[0].getModifiers()));
        int constants = 0;
        for (Field f : GlkPanes.class.getDeclaredFields()) {
            boolean named = Set.of("BAD", "NONE", "NOT", "FULL").contains(f.getName());
            constants += named ? 1 : 0;
            Due.isTrue(f + " is public or private", named ? f.getModifiers() == (Modifier.PUBLIC | Modifier.STATIC
                | Modifier.FINAL) && f.getType() == int.class : Modifier.isPrivate(f.getModifiers()));
        }
        Due.is("constants", constants, 4);
        Due.is("BAD", GlkPanes.BAD, -1);
        Due.is("NONE", GlkPanes.NONE, -2);
        Due.is("NOT", GlkPanes.NOT, -3);
        Due.is("FULL", GlkPanes.FULL, -4);
    }

    private static String signature(Method m) {
        StringBuilder b = new StringBuilder(m.getName()).append('(');
        for (Class<?> c : m.getParameterTypes()) {
            b.append(b.charAt(b.length() - 1) == '(' ? "" : ",").append(c.getSimpleName());
        }
        return b.append(')').toString();
    }

    private static void classesInside() {
        Class<?>[] inside = GlkPanes.class.getDeclaredClasses();
        Due.isTrue("at most twelve classes", inside.length + 1 <= 12);
        for (Class<?> c : inside) {
            Due.isTrue(c + " is static, not public", Modifier.isStatic(c.getModifiers())
                && !Modifier.isPublic(c.getModifiers()) && !Modifier.isProtected(c.getModifiers()));
            Due.isTrue(c + " has some twenty fields at most", c.getDeclaredFields().length <= 20);
            for (Field f : c.getDeclaredFields()) {
                Due.isTrue(f + " is final if it is static",
                    !Modifier.isStatic(f.getModifiers()) || Modifier.isFinal(f.getModifiers()));
            }
            for (Method m : c.getDeclaredMethods()) {
                Due.isTrue(m + " has seven parameters at most", m.getParameterCount() <= 7);
            }
        }
    }

    private static void library() throws Exception {
        Set<String> used = new TreeSet<>(Library.usedBy(GlkPanes.class, "GlkPanes"));
        for (Class<?> c : GlkPanes.class.getDeclaredClasses()) {
            used.addAll(Library.usedBy(c, "GlkPanes"));
        }
        Due.isTrue("it uses something of the library", !used.isEmpty());
        for (String method : used) {
            Due.isTrue(method + " is of the library that may be used", LIBRARY.contains(method));
        }
    }

    private static void source(String path) throws Exception {
        String text = Files.readString(Path.of(path)).replaceAll("(?s)/\\*.*?\\*/", "").replaceAll("//[^\n]*", "");
        for (String word : RULED_OUT) {
            boolean letters = Character.isLetter(word.charAt(0)) && !word.equals("Exact") && !word.equals("Exception");
            Matcher m = Pattern.compile(letters ? "\\b" + word : word).matcher(text);
            Due.isTrue("no '" + word + "' in the source", !m.find());
        }
        Matcher imports = Pattern.compile("import\\s+([^;]+);").matcher(text);
        while (imports.find()) {
            Due.isTrue("import of " + imports.group(1), imports.group(1).equals("java.util.Arrays"));
        }
        methodLengths(text.split("\n"));
    }

    /** A method begins with its head's "{" and ends with the "}" below the head's first letter. */
    private static void methodLengths(String[] lines) {
        for (int i = 0; i < lines.length; i++) {
            Matcher head = Pattern.compile("( {4}| {8})[a-zA-Z].*\\) \\{").matcher(lines[i]);
            if (head.matches()) {
                int end = i + 1;
                while (end < lines.length && !lines[end].equals(head.group(1) + "}")) {
                    end++;
                }
                Due.isTrue("some sixty lines at most:" + lines[i], end - i < 60);
            }
        }
    }

    /** The dearest runs: all 60 panes with signs of their own, and looks at a full TEXT; 8 bytes for each element. */
    private static void room() {
        com.sun.management.ThreadMXBean bean = (com.sun.management.ThreadMXBean) ManagementFactory.getThreadMXBean();
        long thread = Thread.currentThread().getId();
        long before = bean.getThreadAllocatedBytes(thread);
        GlkPanes x = new GlkPanes(60, 24);
        x.open(0, 0, 0, 2);
        for (int n = 2; n <= 58; n += 2) {
            x.open(1, n % 4 + 4, 50, 2);
            x.close(n);
        }
        long panes = bean.getThreadAllocatedBytes(thread) - before;
        x.open(0, 0, 0, 1);
        GlkPanes y = new GlkPanes(60, 24);
        y.open(0, 0, 0, 1);
        for (int i = 0; i < 405; i++) {
            y.sign(1, i % 7 == 0 ? 32 : 'a');
        }
        before = bean.getThreadAllocatedBytes(thread);
        for (int i = 0; i < 20; i++) {
            y.lines(1);
            y.drawn(i % 60, i % 24);
            y.click(i % 60, i % 24);
            y.resize(4 + i, i);
            y.take();
        }
        long looks = bean.getThreadAllocatedBytes(thread) - before;
        System.out.println("60 numbers of panes took " + panes + " bytes, 100 looks " + looks);
        Due.isTrue("60 numbers of panes take " + panes + " bytes", panes < 1_000_000);
        Due.isTrue("looks make nothing: " + looks + " bytes", looks < 20_000);
    }
}
