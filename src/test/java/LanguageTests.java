import java.io.IOException;
import java.lang.reflect.Constructor;
import java.lang.reflect.Field;
import java.lang.reflect.Method;
import java.lang.reflect.Modifier;
import java.nio.charset.StandardCharsets;
import java.nio.file.Files;
import java.nio.file.Path;
import java.util.ArrayList;
import java.util.Arrays;
import java.util.List;
import java.util.Set;
import java.util.TreeSet;
import java.util.regex.Matcher;
import java.util.regex.Pattern;

/** That the class keeps to LANGUAGE.md and to the document's face, as far as its source and its shape can tell. */
final class LanguageTests {
    private static final String FACE = "int status() long top() long bottom() boolean tray(int,int,int) "
        + "boolean write(int,int,long) long read(int,int) boolean pour(int,int,int,int,int) int feed(int,int,int,int,int) "
        + "int marsh(int) int mornings(int) int fault(int) int told(int) int cell(int,int,int) int walker(int,int) "
        + "int pole(int,int,int) int step(int,int,int,int) int stand(int) int hand(int,int,int) int plank(int,int) "
        + "boolean rot(int,int) boolean rise(int,int,int) int pack(int,int) boolean send(int,int,int) boolean weather(int) "
        + "int pierce(int,int) int far(int,int,int,int) int burden(int) int pull(int,int) int choices(int,int) "
        + "int bears(int,int,int) int weakest(int) int sunkIn(int,int,int) int fallsIn(int) int skinIn(int,int,int) "
        + "int helpers(int) int way(int) int wayFrom(int,int,int,int,int) int keys(int) int isKey(int,int,int) "
        + "int soonest(int,int) int soonestAt(int,int,int) int sparing(int,int) int sparingAt(int,int,int) int planks(int) "
        + "int mostPlanks() int race(int,int,int) int raced(int,int,int,int) int gone(int) int tracks(int) int sure(int) "
        + "boolean luck(int) int luckiest() int copyRow(int,int) int live(int) int lived(int) boolean mean(int,int) "
        + "int mark() int undo() ";
    private static final Pattern METHOD = Pattern.compile(
        "^ {4,8}(?:public |private )?(?:static )?(?:[\\w\\[\\]]+ )?(\\w+)\\([^;]*\\) \\{$");

    private LanguageTests() {
    }

    public static void main(String[] args) throws IOException {
        String raw = Files.readString(Path.of("src/main/java/StiltMarsh.java"), StandardCharsets.ISO_8859_1);
        face();
        insideClasses();
        words(withoutComments(raw));
        library(withoutComments(raw));
        lengths(raw.split("\n", -1));
        makesNothingInCalls(raw.split("\n", -1));
        Check.close("LanguageTests");
    }

    private static void rule(String what, boolean holds) {
        Check.due("LANGUAGE: " + what, holds, true);
    }

    private static String signature(Method m) {
        StringBuilder b = new StringBuilder(m.getReturnType().getSimpleName() + " " + m.getName() + "(");
        for (Class<?> type : m.getParameterTypes()) {
            b.append(b.charAt(b.length() - 1) == '(' ? "" : ",").append(type.getSimpleName());
        }
        return b.append(")").toString();
    }

    private static void face() {
        Class<?> face = StiltMarsh.class;
        rule("public and final", Modifier.isPublic(face.getModifiers()) && Modifier.isFinal(face.getModifiers()));
        Set<String> found = new TreeSet<>();
        for (Method m : face.getDeclaredMethods()) {
            if (Modifier.isPublic(m.getModifiers())) {
                found.add(signature(m));
            } else {
                rule(m + " is private", Modifier.isPrivate(m.getModifiers()));
            }
        }
        Set<String> want = new TreeSet<>(Arrays.asList(FACE.trim().split("(?<=\\)) ")));
        rule("the face is the document's: " + found, found.equals(want));
        for (Field f : face.getDeclaredFields()) {
            rule(f + " is private", Modifier.isPrivate(f.getModifiers()) || f.getName().equals("NONE"));
        }
        for (Constructor<?> c : face.getDeclaredConstructors()) {
            rule("one constructor", Modifier.isPublic(c.getModifiers()) && c.getParameterCount() == 0);
        }
    }

    private static void insideClasses() {
        Set<String> names = new TreeSet<>();
        for (String one : FACE.trim().split("(?<=\\)) ")) {
            names.add(one.replaceAll("^\\w+ |\\(.*$", ""));
        }
        List<Class<?>> all = new ArrayList<>(Arrays.asList(StiltMarsh.class.getDeclaredClasses()));
        rule("static classes inside", all.stream().allMatch(c -> Modifier.isStatic(c.getModifiers())
            && !Modifier.isPublic(c.getModifiers()) && !Modifier.isProtected(c.getModifiers())));
        all.add(StiltMarsh.class);
        rule("some twelve classes", all.size() <= 12);
        for (Class<?> c : all) {
            int fields = 0;
            for (Field f : c.getDeclaredFields()) {
                fields += Modifier.isStatic(f.getModifiers()) ? 0 : 1;
                rule(f + " is final, if static", !Modifier.isStatic(f.getModifiers()) || Modifier.isFinal(f.getModifiers()));
            }
            rule(c + " has at most twenty fields", fields <= 20);
            for (Method m : c.getDeclaredMethods()) {
                rule(m + " has at most seven parameters", m.getParameterCount() <= 7);
                rule(m + " has no face's name", c == StiltMarsh.class && Modifier.isPublic(m.getModifiers())
                    || !names.contains(m.getName()));
            }
        }
    }

    private static String withoutComments(String raw) {
        return raw.replaceAll("(?s)/\\*.*?\\*/", " ").replaceAll("//[^\n]*", " ");
    }

    private static void words(String source) {
        for (String word : new String[] {"throw", "throws", "try", "catch", "finally", "synchronized", "assert", "native",
            "volatile", "transient", "package", "instanceof", "double", "float", "Thread", "Random", "Exact", "Object",
            "hashCode", "toString", "getClass", "values"}) {
            rule("no " + word, !Pattern.compile("\\b" + word + "\\b").matcher(source).find());
        }
        rule("no lambda", !source.contains("->"));
        rule("no method reference", !source.contains("::"));
        rule("no text joined by +", !Pattern.compile("\"\\s*\\+|\\+\\s*\"").matcher(source).find());
        rule("no endless loop", !Pattern.compile("while\\s*\\(\\s*true|for\\s*\\(\\s*;").matcher(source).find());
        for (int i = 0; i < source.length(); i++) {
            if (source.charAt(i) > 126 || source.charAt(i) < 32 && source.charAt(i) != '\n') {
                rule("plain signs alone, at " + i, false);
            }
        }
    }

    private static void library(String source) {
        Matcher imports = Pattern.compile("import ([^;]+);").matcher(source);
        while (imports.find()) {
            rule("import " + imports.group(1), imports.group(1).equals("java.util.Arrays"));
        }
        Set<String> allowed = Set.of("Math.max", "Math.min", "Math.abs", "Integer.bitCount", "System.arraycopy", "Arrays.fill");
        Matcher calls = Pattern.compile("\\b(Math|Integer|Long|System|Arrays|String|Character|Byte)\\.\\w+").matcher(source);
        while (calls.find()) {
            rule("library: " + calls.group(), allowed.contains(calls.group()));
        }
    }

    private static void lengths(String[] lines) {
        int methods = 0;
        for (int i = 0; i < lines.length; i++) {
            Matcher m = METHOD.matcher(lines[i]);
            if (m.find()) {
                methods++;
                int end = endOf(lines, i);
                rule(m.group(1) + " is at most sixty lines long", end - i + 1 <= 60);
            }
        }
        rule("methods were found", methods > 150);
    }

    private static int endOf(String[] lines, int from) {
        String closing = lines[from].replaceAll("\\S.*$", "") + "}";
        int i = from + 1;
        while (!lines[i].equals(closing)) {
            i++;
        }
        return i;
    }

    /** All calls of a run live in one room, so nothing is made but by constructors. */
    private static void makesNothingInCalls(String[] lines) {
        boolean[] inMethod = new boolean[lines.length];
        for (int i = 0; i < lines.length; i++) {
            Matcher m = METHOD.matcher(lines[i]);
            if (m.find() && !Character.isUpperCase(m.group(1).charAt(0))) {
                Arrays.fill(inMethod, i, endOf(lines, i), true);
            }
        }
        for (int i = 0; i < lines.length; i++) {
            rule("nothing is made in line " + (i + 1), !(inMethod[i] && lines[i].matches(".*\\bnew [A-Za-z]+[\\[(].*")));
        }
    }
}
