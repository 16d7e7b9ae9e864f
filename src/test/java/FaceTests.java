import java.io.IOException;
import java.lang.management.ManagementFactory;
import java.lang.reflect.Constructor;
import java.lang.reflect.Field;
import java.lang.reflect.Method;
import java.lang.reflect.Modifier;
import java.nio.file.Files;
import java.nio.file.Path;
import java.util.ArrayList;
import java.util.Arrays;
import java.util.Collections;
import java.util.List;
import java.util.Random;
import java.util.Set;
import java.util.TreeSet;
import java.util.regex.Matcher;
import java.util.regex.Pattern;

/** The face as the document tells it, what of LANGUAGE.md a program can see, and the room that a run takes. */
public final class FaceTests {
    private static final List<String> FACE = List.of(
        "int land()",
        "int road(int,int,int,int,int,boolean) NoSuchElementException",
        "int provider(int)",
        "int lorry(int,int)",
        "int box(int,int) NoSuchElementException",
        "int go(int) IllegalArgumentException",
        "int signal(int,int,int) NoSuchElementException",
        "boolean back(int) NoSuchElementException",
        "int dispute(int) NoSuchElementException",
        "boolean decide(int,int,int) NoSuchElementException",
        "int feed(int,int,int,int,int)",
        "int terms(int,int,int) NoSuchElementException IllegalArgumentException",
        "int fault()",
        "int black(int,boolean,int) NoSuchElementException",
        "boolean rate(int,int,int) NoSuchElementException",
        "int track(int,int,int) NoSuchElementException IllegalArgumentException",
        "int passage(int,int,int,int) NoSuchElementException IllegalArgumentException",
        "long due(int,int,int,int) NoSuchElementException IllegalArgumentException",
        "int unpaid(int,int,int) NoSuchElementException IllegalArgumentException",
        "long falls(int,int,int) NoSuchElementException IllegalArgumentException",
        "int way(int,long,int) NoSuchElementException",
        "int cameras(int) IllegalArgumentException",
        "int sees(int)",
        "int attempt(int,int,int) NoSuchElementException IllegalArgumentException",
        "int more()",
        "int count(int) NoSuchElementException");

    private FaceTests() {
    }

    public static void main(String[] args) throws IOException {
        face();
        classesInside();
        source(Files.readString(Path.of("src/main/java/TollTags.java")));
        room();
        Checks.end();
    }

    private static void face() {
        Set<String> got = new TreeSet<>();
        Set<String> names = new TreeSet<>();
        for (Method m : TollTags.class.getDeclaredMethods()) {
            if (Modifier.isPublic(m.getModifiers())) {
                got.add(signature(m));
                names.add(m.getName());
            } else {
                Checks.same("private " + m.getName(), 1, Checks.truth(Modifier.isPrivate(m.getModifiers())));
            }
        }
        Checks.same("the face: " + got, 1, Checks.truth(got.equals(new TreeSet<>(FACE))));
        List<Method> others = new ArrayList<>(Arrays.asList(TollTags.class.getDeclaredMethods()));
        others.removeIf(m -> Modifier.isPublic(m.getModifiers()));
        for (Class<?> inside : TollTags.class.getDeclaredClasses()) {
            Collections.addAll(others, inside.getDeclaredMethods());
        }
        for (Method m : others) {
            Checks.same("a name of the face: " + m, 0, Checks.truth(names.contains(m.getName())));
        }
        Constructor<?>[] made = TollTags.class.getDeclaredConstructors();
        Checks.same("one constructor", 1, made.length);
        Checks.same("it is public", 1, Checks.truth(Modifier.isPublic(made[0].getModifiers())));
        Checks.same("final", 1, Checks.truth(Modifier.isFinal(TollTags.class.getModifiers())));
        for (Field f : TollTags.class.getDeclaredFields()) {
            boolean none = f.getName().equals("NONE");
            Checks.same("field " + f, 1, Checks.truth(none == Modifier.isPublic(f.getModifiers())
                && none != Modifier.isPrivate(f.getModifiers())));
        }
    }

    private static String signature(Method m) {
        StringBuilder text = new StringBuilder(m.getReturnType() + " " + m.getName() + "(");
        for (Class<?> type : m.getParameterTypes()) {
            text.append(text.charAt(text.length() - 1) == '(' ? "" : ",").append(type);
        }
        text.append(")");
        for (Class<?> thrown : m.getExceptionTypes()) {
            text.append(" ").append(thrown.getSimpleName());
        }
        return text.toString();
    }

    private static void classesInside() {
        Class<?>[] inside = TollTags.class.getDeclaredClasses();
        Checks.same("classes", 1, Checks.truth(inside.length + 1 <= 12));
        List<Class<?>> all = new ArrayList<>(List.of(inside));
        all.add(TollTags.class);
        for (Class<?> c : all) {
            int fields = 0;
            for (Field f : c.getDeclaredFields()) {
                if (Modifier.isStatic(f.getModifiers())) {
                    Checks.same("static is final: " + f, 1, Checks.truth(Modifier.isFinal(f.getModifiers())));
                } else {
                    fields++;
                }
            }
            Checks.same("fields of " + c, 1, Checks.truth(fields <= 20));
            for (Method m : c.getDeclaredMethods()) {
                Checks.same("parameters of " + m, 1, Checks.truth(m.getParameterCount() <= 7));
                Checks.same("synthetic " + m, 0, Checks.truth(m.isSynthetic()));
            }
        }
    }

    private static void source(String text) {
        String code = text.replaceAll("(?s)/\\*.*?\\*/", "").replaceAll("//[^\n]*", "");
        String[] banned = {"->", "::", "Exact", "synchronized", "assert ", "finally", "package ", "Random", "Thread",
            "System\\.(?!arraycopy)", "catch", "instanceof", "hashCode", "equals", "toString", "static \\{", "while \\("};
        for (String b : banned) {
            Checks.same("banned " + b, 0, Checks.truth(Pattern.compile(b).matcher(code).find()));
        }
        Matcher used = Pattern.compile("import ([\\w.]+);").matcher(code);
        while (used.find()) {
            Checks.same(used.group(), 1, Checks.truth(List.of("java.util.Arrays", "java.util.NoSuchElementException")
                .contains(used.group(1))));
        }
        indexes(code);
        methodLengths(code.split("\n"));
    }

    /** Only the rows that look at an index themselves use it; all others go through them. */
    private static void indexes(String code) {
        Matcher index = Pattern.compile("\\n[^\n]*\\w\\[\\w[^\n]*").matcher(code);
        List<String> looked = List.of("? row[i] : 0", "row[i] = number;", "? tariffs[place] : null", "tariffs[place] = tariff;",
            "int token = -steps[i];");
        while (index.find()) {
            String row = index.group().trim();
            Checks.same("index in " + row, 1, Checks.truth(row.contains("= new ") || row.contains("new Tariff(")
                || looked.stream().anyMatch(row::contains)));
        }
    }

    private static void methodLengths(String[] rows) {
        int depth = 0;
        int start = -1;
        int methodDepth = 0;
        for (int i = 0; i < rows.length; i++) {
            boolean begins = rows[i].endsWith("{") && rows[i].contains("(") && !rows[i].contains(" class ");
            if (start < 0 && begins) {
                start = i;
                methodDepth = depth;
            }
            depth += rows[i].length() - rows[i].replace("{", "").length();
            depth -= rows[i].length() - rows[i].replace("}", "").length();
            if (start >= 0 && depth == methodDepth) {
                Checks.same("length of " + rows[start].trim(), 1, Checks.truth(i - start < 60));
                start = -1;
            }
        }
        Checks.same("braces", 0, depth);
    }

    /** Runs with the dearest calls: what a run makes stays far below what there is room for. */
    private static void room() {
        com.sun.management.ThreadMXBean threads = (com.sun.management.ThreadMXBean) ManagementFactory.getThreadMXBean();
        long id = Thread.currentThread().getId();
        long before = 0;
        for (int i = 0; i < 30; i++) {
            before = threads.getThreadAllocatedBytes(id);
            dearRun(new Random(7));
        }
        long bytes = threads.getThreadAllocatedBytes(id) - before;
        Checks.same("bytes of a run: " + bytes, 1, Checks.truth(bytes < 400000));
    }

    /** 512 calls: 200 SIGNALS, and then the dearest questions and tries of long texts. */
    private static void dearRun(Random random) {
        TollTags x = new TollTags();
        x.land();
        x.provider(1000);
        x.lorry(2, 0);
        x.box(0, 0);
        x.box(0, 0);
        for (int node = 0; node < 23; node++) {
            x.road(node, node + 1, 0, 1, 0, false);
        }
        x.road(23, 0, 0, 1, 0, true);
        x.go(1000);
        for (int i = 0; i < 200; i++) {
            x.signal(random.nextInt(2), 23, random.nextInt(1000));
        }
        for (int i = 0; i < 12; i++) {
            for (int j = 0; j < 20; j++) {
                x.feed(0x746F6C6C, 0x206B6D2B, 0x6B6D2D6B, 0x6D2A6B6D, 0x2B6B6D3B);
            }
            if (i < 4) {
                x.terms(0, 320, 0);
            } else {
                x.attempt(0, 320, 0);
            }
            x.track(0, 2, 1000);
            x.falls(0, 0, 1000);
        }
    }
}
