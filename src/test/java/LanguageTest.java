import java.io.IOException;
import java.lang.reflect.Constructor;
import java.lang.reflect.Field;
import java.lang.reflect.Method;
import java.lang.reflect.Modifier;
import java.nio.charset.StandardCharsets;
import java.nio.file.Files;
import java.nio.file.Path;
import java.util.Set;
import java.util.TreeSet;
import java.util.regex.Matcher;
import java.util.regex.Pattern;

/** The rules of ../shared/LANGUAGE.md, as far as a look at the source and at the classes can tell. */
final class LanguageTest {
    private static final String[] FACE = {
        "int ship(int,int,int,int)", "int plate(int,int,int,int,int)", "int lay(int)", "int wear(int,int)",
        "int bound(int)", "int wire(int)", "int crowd(int,int)", "int storm(int,int)", "int months(int)",
        "int about(int,int)", "int plateAt(int,int)", "int replace(int,int)", "int move(int,int)",
        "int reading(int,int,int,int,int)", "int bias(int,int)", "int right(int,int,int)", "int guess(int,int,int)",
        "int due(int,int)", "int first(int,int)", "int write(int,int)", "int erase(int)", "int fault(int)",
        "long tells(int,int)", "int charter(int,int)", "int unlike(int,int,int,int)", "int hull(int,int,int)",
        "int docks(int,int)", "int plan(int)", "int clear()", "int test(int,boolean)", "int drain()",
        "int leaks(int)", "int wave(int,int)", "int tow(int,int,int)", "int hand(int,int)", "int work(int,int,int)",
        "int done(int)", "int worst(int,int,int)", "int image(int)", "int from(int)", "int count(int)",
        "long digest()"};
    private static final String[] RULED_OUT = {"throw", "throws", "try", "catch", "finally", "synchronized", "assert",
        "float", "double", "System.out", "Math.random", "currentTimeMillis", "nanoTime", "Exact", "var", "equals",
        "hashCode", "toString", "volatile", "transient", "native", "->", "::", "...", "@"};

    private LanguageTest() {
    }

    static void run(String path) throws IOException {
        Check.promise(0);
        String source = new String(Files.readAllBytes(Path.of(path)), StandardCharsets.ISO_8859_1);
        words(source);
        lengths(source);
        face();
        classesInside();
    }

    private static void words(String source) {
        for (int i = 0; i < source.length(); i++) {
            if (source.charAt(i) > 127) {
                Check.holds("only signs 1 to 127", false);
            }
        }
        String code = source.replaceAll("(?s)/\\*.*?\\*/", "").replaceAll("//[^\n]*", "");
        for (String word : RULED_OUT) {
            boolean isWord = Character.isLetter(word.charAt(0));
            String pattern = isWord ? "\\b" + Pattern.quote(word) + "\\b" : Pattern.quote(word);
            Check.holds("no " + word, !Pattern.compile(pattern).matcher(code).find());
        }
        Matcher imports = Pattern.compile("import ([^;]*);").matcher(code);
        while (imports.find()) {
            Check.holds("import " + imports.group(1), imports.group(1).matches("java\\.util\\.(Arrays|ArrayList|List)"));
        }
        Check.holds("no package line", !code.contains("package "));
        // a String and a text of two parts joined by + would need a quote
        Check.holds("no joining of texts", !code.contains("\""));
    }

    private static void lengths(String source) {
        int start = -1;
        int number = 0;
        for (String line : source.split("\n")) {
            number++;
            boolean isHead = line.matches(" {4}( {4})?[A-Za-z].*\\) \\{") && !line.contains(" class ");
            if (isHead && start < 0) {
                start = number;
            }
            if (start >= 0 && line.matches(" {4}( {4})?\\}")) {
                Check.holds("a method from line " + start + " is short", number - start < 60);
                start = -1;
            }
        }
    }

    private static void face() {
        Set<String> due = new TreeSet<>(Set.of(FACE));
        Set<String> names = new TreeSet<>();
        for (String head : FACE) {
            names.add(head.replaceAll(".* |\\(.*", "").replaceAll("\\(.*", ""));
        }
        Set<String> found = new TreeSet<>();
        for (Method m : HullKeepers.class.getDeclaredMethods()) {
            if (m.isSynthetic()) {
                continue;
            }
            if (Modifier.isPublic(m.getModifiers())) {
                found.add(head(m));
            } else {
                Check.holds(m + " is private", Modifier.isPrivate(m.getModifiers()));
                Check.holds(m + " bears no public name", !names.contains(m.getName()));
            }
            Check.holds(m + " takes seven at most", m.getParameterCount() <= 7);
        }
        Check.holds("the methods of the face: " + due + " are " + found, due.equals(found));
        int constants = 0;
        for (Field f : HullKeepers.class.getDeclaredFields()) {
            if (Modifier.isPublic(f.getModifiers())) {
                constants++;
                Check.holds(f + " is a constant", f.toString().startsWith("public static final int "));
            } else {
                Check.holds(f + " is private", Modifier.isPrivate(f.getModifiers()));
            }
        }
        Check.due("public constants", constants, 4);
        Constructor<?>[] made = HullKeepers.class.getDeclaredConstructors();
        Check.due("constructors", made.length, 1);
        Check.holds("a public one without arguments", Modifier.isPublic(made[0].getModifiers())
                && made[0].getParameterCount() == 0);
        Check.holds("final", Modifier.isFinal(HullKeepers.class.getModifiers()));
    }

    private static String head(Method m) {
        StringBuilder b = new StringBuilder();
        b.append(m.getReturnType().getSimpleName()).append(' ').append(m.getName()).append('(');
        for (int i = 0; i < m.getParameterCount(); i++) {
            b.append(i > 0 ? "," : "").append(m.getParameterTypes()[i].getSimpleName());
        }
        return b.append(')').toString();
    }

    private static void classesInside() {
        Class<?>[] inside = HullKeepers.class.getDeclaredClasses();
        Check.holds("twelve classes at most", inside.length < 12);
        for (Class<?> c : inside) {
            int mods = c.getModifiers();
            Check.holds(c + " is static", Modifier.isStatic(mods) || c.isEnum());
            Check.holds(c + " is not public", !Modifier.isPublic(mods) && !Modifier.isProtected(mods));
            Check.due(c + " holds no class", c.getDeclaredClasses().length, 0);
            int fields = 0;
            for (Field f : c.getDeclaredFields()) {
                if (Modifier.isStatic(f.getModifiers())) {
                    Check.holds(f + " is final", Modifier.isFinal(f.getModifiers()));
                } else {
                    fields++;
                }
            }
            Check.holds(c + " has some twenty fields", fields <= 20);
            for (Method m : c.getDeclaredMethods()) {
                Check.holds(m + " takes seven at most", m.getParameterCount() <= 7);
            }
        }
    }
}
