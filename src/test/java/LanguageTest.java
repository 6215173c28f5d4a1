import java.lang.management.ManagementFactory;
import java.lang.reflect.Constructor;
import java.lang.reflect.Field;
import java.lang.reflect.Method;
import java.lang.reflect.Modifier;
import java.nio.file.Files;
import java.nio.file.Path;
import java.util.ArrayList;
import java.util.Arrays;
import java.util.List;
import java.util.Set;
import java.util.TreeSet;
import java.util.regex.Matcher;
import java.util.regex.Pattern;

/** The rules of LANGUAGE.md that can be looked up in the class and in its text. Runs at the project's root. */
public final class LanguageTest {
    private static final String FACE = """
        int feed(int)
        int end(int)
        int text()
        int fault()
        int rule(int)
        int child(int,int)
        int season(int,int)
        int alter(int,int,int)
        int set(int,int,int)
        int bind(int,int,int)
        int free(int)
        int born(int)
        int weeks(int)
        int runs(int,int)
        int ahead(int,int,int)
        int home(int)
        int meet(int,int)
        int place(int,int,int)
        int swap(int,int)
        int span(int,int,int)
        int gift(int,int)
        int term(int,int,int)
        int kind(int,int,int)
        long luck(int,int,int,int,int)
        long mean(int,int,int)
        int see(int,int,int)
        int forget(int)
        int kinds(int)
        int seasons(int)
        int gifts(int)
        int ask(int,int)
        int drift(int,int,int)
        int keep(int)
        int back(int)
        int sheet(int,int,int)
        int lay(int,int,int)
        int read(int,int,int,int)
        int torn()
        int count(int)
        """;
    private static final String FORBIDDEN = "\\b(throw|throws|try|catch|synchronized|assert|new Random|System\\.(?!arraycopy)\\w+"
        + "|\\w+Exact|hashCode|toString|Thread|lambda)\\b|->|::";
    private static final int LONGEST_METHOD = 60;
    private static final int MOST_PARAMETERS = 7;
    private static final int MOST_CLASSES = 12;
    private static final int MOST_FIELDS = 20;

    private final Check check = new Check();

    public static void main(String[] args) throws Exception {
        LanguageTest test = new LanguageTest();
        test.face();
        test.classesInside();
        test.source(Files.readString(Path.of("src/main/java/SeasonBound.java")));
        test.room();
        test.check.finish("LanguageTest");
    }

    private void face() {
        Class<?> type = SeasonBound.class;
        check.holds("public and final", Modifier.isPublic(type.getModifiers()) && Modifier.isFinal(type.getModifiers()));
        Set<String> found = new TreeSet<>();
        for (Method m : type.getDeclaredMethods()) {
            if (Modifier.isPublic(m.getModifiers())) {
                found.add(m.toString().replace("public ", "").replace("SeasonBound.", ""));
            } else {
                check.holds(m + " is private", Modifier.isPrivate(m.getModifiers()));
            }
        }
        check.holds("the face is the document's: " + found, found.equals(new TreeSet<>(Arrays.asList(FACE.split("\n")))));
        Constructor<?>[] constructors = type.getDeclaredConstructors();
        check.holds("one public constructor", constructors.length == 1 && Modifier.isPublic(constructors[0].getModifiers()));
        Set<String> constants = new TreeSet<>();
        for (Field f : type.getDeclaredFields()) {
            if (Modifier.isPublic(f.getModifiers())) {
                constants.add(f.getName());
            } else {
                check.holds(f + " is private", Modifier.isPrivate(f.getModifiers()));
            }
        }
        check.holds("the constants", constants.equals(Set.of("BAD", "STATE", "FULL", "NONE")));
    }

    private void classesInside() {
        Set<String> faceNames = new TreeSet<>();
        for (Method m : SeasonBound.class.getMethods()) {
            faceNames.add(m.getName());
        }
        List<Class<?>> all = new ArrayList<>(Arrays.asList(SeasonBound.class.getDeclaredClasses()));
        check.holds("few classes", all.size() + 1 <= MOST_CLASSES);
        for (Class<?> inside : all) {
            int is = inside.getModifiers();
            check.holds(inside + " is static and not public", Modifier.isStatic(is) && !Modifier.isPublic(is) && !Modifier.isProtected(is));
            for (Method m : inside.getDeclaredMethods()) {
                check.holds(m + " bears a name of its own", !faceNames.contains(m.getName()));
            }
        }
        all.add(SeasonBound.class);
        for (Class<?> type : all) {
            int fields = 0;
            for (Field f : type.getDeclaredFields()) {
                if (Modifier.isStatic(f.getModifiers())) {
                    check.holds(f + " is final", Modifier.isFinal(f.getModifiers()));
                } else {
                    fields++;
                }
            }
            check.holds(type + " has few fields", fields <= MOST_FIELDS);
            for (Method m : type.getDeclaredMethods()) {
                check.holds(m + " takes few parameters", m.getParameterCount() <= MOST_PARAMETERS);
            }
        }
    }

    private void source(String text) {
        check.holds("signs are 1 to 127", text.chars().allMatch(c -> c > 0 && c < 128));
        String code = text.replaceAll("(?s)/\\*.*?\\*/", "").replaceAll("//[^\n]*", "");
        Matcher imports = Pattern.compile("(?m)^import (.*);").matcher(code);
        while (imports.find()) {
            check.holds("import " + imports.group(1), imports.group(1).matches("java\\.util\\.(Arrays|ArrayList|List|Iterator)"));
        }
        check.holds("no package", !Pattern.compile("(?m)^package").matcher(code).find());
        Matcher forbidden = Pattern.compile(FORBIDDEN).matcher(code.replaceAll("\"[^\"\n]*\"", "\"\""));
        while (forbidden.find()) {
            check.holds("none of " + forbidden.group(), false);
        }
        methodsAreShort(code);
    }

    /** A method is all between a line that opens it, at its indentation, and the next brace at that. */
    private void methodsAreShort(String code) {
        Matcher methods = Pattern.compile("(?m)^( {4}| {8})(?! )[^\n=;]*\\)[^\n;]*\\{\n((?:.*\n)*?)\\1\\}").matcher(code);
        int found = 0;
        while (methods.find()) {
            found++;
            check.holds("a short method: " + methods.group().lines().findFirst().get(),
                methods.group().lines().count() <= LONGEST_METHOD);
        }
        check.holds("methods were found", found > 40);
    }

    /** All calls of a run live in one room: what a call asks makes nothing, what an object holds is small. */
    private void room() {
        com.sun.management.ThreadMXBean memory = (com.sun.management.ThreadMXBean) ManagementFactory.getThreadMXBean();
        allCalls(Check.told("plain 0 9;quick 1 9;slow 2 9;orphan 3 9;plain 0 9;"));
        SeasonBound x = Check.told("plain 0 9;quick 1 9;slow 2 9;orphan 3 9;plain 0 9;");
        long before = memory.getCurrentThreadAllocatedBytes();
        allCalls(x);
        long calls = memory.getCurrentThreadAllocatedBytes() - before;
        check.holds("calls make next to nothing: " + calls + " bytes", calls < 1000);
        before = memory.getCurrentThreadAllocatedBytes();
        for (int i = 0; i < 100; i++) {
            new SeasonBound();
        }
        long each = (memory.getCurrentThreadAllocatedBytes() - before) / 100;
        check.holds("an object is small: " + each + " bytes", each < 8000);
    }

    private static void allCalls(SeasonBound x) {
        for (int n = 0; n <= 60; n += 20) {
            x.runs(n, 0);
            x.place(1, n, 0);
            x.swap(n, 0);
            x.span(1, n, 0);
            x.gift(n, 0);
            x.term(0, n, 99);
            x.kind(0, n, 0);
            x.drift(7, n, 0);
            x.home(2);
            x.meet(1, 2);
            x.luck(3, 0, 8, 2, 0);
            x.mean(3, 8, 0);
            x.see(30, 0, 9);
            x.kinds(0);
            x.seasons(0);
            x.gifts(0);
            x.ask(1, 0);
            x.weeks(1);
            x.keep(0);
            x.back(0);
            x.sheet(0, 0, 40);
            x.lay(0, 2, 1);
            x.read(0, 0, 0, 13);
        }
        x.feed(' ');
        x.text();
    }
}
