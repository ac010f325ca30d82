import java.lang.reflect.Constructor;
import java.lang.reflect.Field;
import java.lang.reflect.Method;
import java.lang.reflect.Modifier;
import java.nio.file.DirectoryStream;
import java.nio.file.Files;
import java.nio.file.Path;
import java.util.ArrayList;
import java.util.Arrays;
import java.util.List;
import java.util.Set;
import java.util.TreeSet;
import java.util.regex.Matcher;
import java.util.regex.Pattern;

/** The rules of LANGUAGE.md that a look at the source or at the class can tell. */
public final class LanguageTest {
    private static final Due due = new Due();

    private static void none(String rule, List<String> found) {
        due.is(rule + (found.isEmpty() ? "" : ": " + found), 0, found.size());
    }

    private static List<String> found(String pattern, String text) {
        List<String> all = new ArrayList<>();
        Matcher m = Pattern.compile(pattern, Pattern.MULTILINE).matcher(text);
        while (m.find()) all.add(m.group());
        return all;
    }

    /** The source without comments, texts and signs, its lines kept. */
    private static String bare(String source) {
        String s = Pattern.compile("/\\*.*?\\*/", Pattern.DOTALL).matcher(source).replaceAll(m -> m.group().replaceAll("[^\n]", ""));
        return s.replaceAll("//[^\n]*", "").replaceAll("\"[^\"\n]*\"", "\"\"").replaceAll("'\\\\?.'", "' '");
    }

    public static void main(String[] args) throws Exception {
        String source = bare(Files.readString(Path.of("src/main/java/LockRail.java")));
        String document = Files.readString(Path.of("../shared/DOC.md"));
        words(source);
        library(source);
        face(document);
        sizes(source);
        headings();
        due.close();
    }

    /** Not a rule of the language: each heading of the document has its sentences tested in one of the tests. */
    private static void headings() throws Exception {
        Set<String> tested = new TreeSet<>();
        try (DirectoryStream<Path> tests = Files.newDirectoryStream(Path.of("src/test/java"), "*SentencesTest.java")) {
            for (Path test : tests) tested.addAll(found("(?<=doc\\.of\\(\")\\w+(?=\"\\))", Files.readString(test)));
        }
        Set<String> wanted = Sentences.headings().keySet();
        due.is("headings of the document: 60 promises, 7 terms", 67, wanted.size());
        due.is("each has its sentences tested: " + wanted + ", got " + tested, 1, tested.equals(new TreeSet<>(wanted)) ? 1 : 0);
    }

    private static void words(String source) {
        none("6: no such word", found("\\b(throw|throws|try|catch|finally|synchronized|assert|volatile|native|yield|protected)\\b", source));
        none("2: no lambda, no method reference", found("->|::", source));
        none("6: no equals, hashCode or toString", found("\\b(equals|hashCode|toString)\\b", source));
        none("3: no var, no double", found("\\b(var|double|float|Object)\\b", source));
        none("no import", found("^import .*$", source));
        none("no package", found("^package .*$", source));
        none("5: static fields are final", found("^\\s*(private )?static (?!final)[^(]*;", source));
        none("5: no static block", found("static\\s*\\{", source));
    }

    /** Calls and constants of a class whose name begins with a capital: the library's must be listed. */
    private static void library(String source) {
        Set<String> mine = new TreeSet<>();
        for (Class<?> c : LockRail.class.getDeclaredClasses()) mine.add(c.getSimpleName());
        Set<String> allowed = Set.of("Math.max", "Math.min", "Math.abs", "Integer.bitCount", "System.arraycopy");
        List<String> others = new ArrayList<>();
        for (String use : found("\\b[A-Z]\\w*[a-z]\\w*\\.\\w+", source)) {
            if (!allowed.contains(use) && !mine.contains(use.substring(0, use.indexOf('.')))) others.add(use);
        }
        none("4: only what is listed", others);
        List<String> notNumbers = new ArrayList<>();
        for (String name : found("(?<=boolean\\[\\] )\\w+(?= = new)", source)) notNumbers.addAll(found("(arraycopy|fill|copyOf)\\([^;]*\\b" + name + "\\b", source));
        none("4: only arrays of numbers are copied whole", notNumbers);
    }

    private static void face(String document) {
        Set<String> due1 = new TreeSet<>();
        Matcher m = Pattern.compile("^    public (\\w+) (\\w+)\\((.*)\\);$", Pattern.MULTILINE).matcher(document);
        while (m.find()) {
            String types = m.group(3).isEmpty() ? "" : Arrays.toString(Arrays.stream(m.group(3).split(", ")).map(p -> p.split(" ")[0]).toArray());
            due1.add(m.group(1) + " " + m.group(2) + types);
        }
        Set<String> got = new TreeSet<>();
        Set<String> publicNames = new TreeSet<>();
        for (Method method : LockRail.class.getDeclaredMethods()) {
            if (!Modifier.isPrivate(method.getModifiers())) {
                Object[] types = Arrays.stream(method.getParameterTypes()).map(Class::getSimpleName).toArray();
                got.add(method.getReturnType().getSimpleName() + " " + method.getName() + (types.length == 0 ? "" : Arrays.toString(types)));
                publicNames.add(method.getName());
                due.is("1: public " + method.getName(), 1, Modifier.isPublic(method.getModifiers()) && !Modifier.isStatic(method.getModifiers()) ? 1 : 0);
            }
        }
        due.is("1: as many methods as the document has", 59, due1.size());
        due.is("1: the face is " + due1 + ", got " + got, 1, due1.equals(got) ? 1 : 0);
        due.is("1: a final class", 1, Modifier.isFinal(LockRail.class.getModifiers()) ? 1 : 0);
        for (Constructor<?> c : LockRail.class.getDeclaredConstructors()) {
            due.is("1: the constructor", 0, c.getParameterCount() + (Modifier.isPublic(c.getModifiers()) ? 0 : 1));
        }
        for (Field field : LockRail.class.getDeclaredFields()) {
            due.is("1: field " + field.getName(), 1, Modifier.isPrivate(field.getModifiers()) || field.getName().equals("NONE") ? 1 : 0);
        }
        List<String> twice = new ArrayList<>();
        List<Class<?>> all = new ArrayList<>(List.of(LockRail.class.getDeclaredClasses()));
        all.add(LockRail.class);
        for (Class<?> c : all) {
            for (Method method : c.getDeclaredMethods()) {
                boolean mine = c != LockRail.class || Modifier.isPrivate(method.getModifiers());
                if (mine && publicNames.contains(method.getName())) twice.add(c.getSimpleName() + "." + method.getName());
            }
        }
        none("1: no private method bears a public one's name", twice);
    }

    private static void sizes(String source) throws Exception {
        Class<?>[] inside = LockRail.class.getDeclaredClasses();
        due.is("11: some twelve classes", 1, inside.length <= 12 ? 1 : 0);
        for (Class<?> c : inside) {
            due.is("2: static " + c.getSimpleName(), 1, Modifier.isStatic(c.getModifiers()) ? 1 : 0);
            long fields = Arrays.stream(c.getDeclaredFields()).filter(f -> !Modifier.isStatic(f.getModifiers())).count();
            due.is("11: some twenty fields in " + c.getSimpleName(), 1, fields <= 20 ? 1 : 0);
            for (Method m : c.getDeclaredMethods()) due.is("11: parameters of " + m, 1, m.getParameterCount() <= 7 ? 1 : 0);
        }
        String[] lines = source.split("\n", -1);
        int begun = -1;
        String indent = "";
        for (int i = 0; i < lines.length; i++) {
            Matcher m = Pattern.compile("^( {4}| {8})(?! )(?:public|private).*\\) \\{$").matcher(lines[i]);
            if (m.matches()) {
                begun = i;
                indent = m.group(1);
            } else if (begun >= 0 && lines[i].equals(indent + "}")) {
                due.is("11: some sixty lines: " + lines[begun].trim(), 1, i - begun + 1 <= 60 ? 1 : 0);
                begun = -1;
            }
        }
    }
}
