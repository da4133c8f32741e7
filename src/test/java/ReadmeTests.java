import java.io.IOException;
import java.lang.reflect.Method;
import java.lang.reflect.Modifier;
import java.nio.charset.StandardCharsets;
import java.nio.file.Files;
import java.nio.file.Path;
import java.util.HashMap;
import java.util.HashSet;
import java.util.Map;
import java.util.Set;
import java.util.regex.Matcher;
import java.util.regex.Pattern;

/** The code that README.md tells, line by line as it stands there, and the answers that its remarks tell. */
final class ReadmeTests {
    /** What each variable of the code came to, a boolean as 1 or 0. */
    private static final Map<String, Long> ANSWERS = new HashMap<>();

    private ReadmeTests() {
    }

    public static void main(String[] args) throws IOException {
        whatTheRemarksTell();
        theCodeStandsHere();
        allCallsAreTold();
        Check.close("ReadmeTests");
    }

    static int feed(StiltMarsh x, String text) {
        for (int i = 0; i < text.length(); i += 20) {
            x.feed(four(text, i), four(text, i + 4), four(text, i + 8), four(text, i + 12), four(text, i + 16));
        }
        return text.length();
    }

    static int four(String text, int from) {
        int bytes = 0;
        for (int i = from; i < from + 4; i++) {
            bytes = bytes << 8 | (i < text.length() ? text.charAt(i) : ' ');
        }
        return bytes;
    }

    private static void whatTheRemarksTell() {
        StiltMarsh x = new StiltMarsh();

        int walkers = x.marsh(feed(x, "marsh 2 by 1 skin 9 soft 2 deep 9; walker ann at 0 0 to 1 0 weight 4;"));
        ANSWERS.put("walkers", (long) walkers);
        int steps = x.mornings(feed(x, "loop 3; any ann; end;"));
        ANSWERS.put("steps", (long) steps);
        int none = x.marsh(feed(x, "marsh 7 by 1 skin 9 soft 2 deep 9;"));
        ANSWERS.put("none", (long) none);
        Check.due("README: the status of a text with a fault", x.status(), 9);
        int kind = x.fault(0);
        ANSWERS.put("kind", (long) kind);
        int place = x.fault(1);
        ANSWERS.put("place", (long) place);

        int moments = x.step(0, 1, 1, 0);
        ANSWERS.put("moments", (long) moments);
        int fine = x.status();
        ANSWERS.put("fine", (long) fine);
        int nowhere = x.step(0, 0, 2, 0);
        ANSWERS.put("nowhere", (long) nowhere);
        int why = x.status();
        ANSWERS.put("why", (long) why);
        int way = x.way(0);
        ANSWERS.put("way", (long) way);

        boolean told = x.luck(0);
        ANSWERS.put("told", told ? 1L : 0L);
        long top = x.top();
        ANSWERS.put("top", top);
        long bottom = x.bottom();
        ANSWERS.put("bottom", bottom);

        boolean made = x.tray(0, 2, 1);
        ANSWERS.put("made", made ? 1L : 0L);
        boolean written = x.write(0, 0, 4);
        ANSWERS.put("written", written ? 1L : 0L);
        int ways = x.tracks(0);
        ANSWERS.put("ways", (long) ways);
        int marks = x.mark();
        ANSWERS.put("marks", (long) marks);
        int done = x.live(5);
        ANSWERS.put("done", (long) done);
        int missed = x.lived(0);
        ANSWERS.put("missed", (long) missed);
        int left = x.undo();
        ANSWERS.put("left", (long) left);
    }

    /**
     * Each line of README.md's Java is a line of this file, so that neither is changed without the other,
     * and what the remark behind it tells is what was answered here.
     */
    private static void theCodeStandsHere() throws IOException {
        Set<String> here = new HashSet<>();
        for (String line : read("src/test/java/ReadmeTests.java").split("\n")) {
            here.add(line.trim());
        }
        boolean code = false;
        int lines = 0;
        int remarks = 0;
        for (String line : read("README.md").split("\n")) {
            if (line.startsWith("```")) {
                code = line.equals("```java");
            } else if (code) {
                lines++;
                String bare = line.replaceFirst(" +// \\S+$", "").trim();
                Check.due("README: stands in ReadmeTests: " + bare, here.contains(bare), true);
                remarks += remarkHolds(line);
            }
        }
        Check.due("README: has code", lines > 20, true);
        Check.due("README: tells all these answers", remarks, ANSWERS.size());
    }

    /** How many remarks the line has: 1 or 0. */
    private static int remarkHolds(String line) {
        Matcher remark = Pattern.compile("\\w+ (\\w+) = .*; +// (\\S+)").matcher(line);
        if (!remark.matches()) {
            return 0;
        }
        String want = remark.group(2).equals("NONE") ? "-1" : remark.group(2).replace("true", "1").replace("false", "0");
        Check.due("README: " + line, ANSWERS.getOrDefault(remark.group(1), Long.MIN_VALUE), Long.parseLong(want));
        return 1;
    }

    /** README.md names each call of the face. */
    private static void allCallsAreTold() throws IOException {
        String readme = read("README.md");
        for (Method m : StiltMarsh.class.getDeclaredMethods()) {
            if (Modifier.isPublic(m.getModifiers())) {
                Check.due("README: names " + m.getName(), readme.contains("`" + m.getName() + "`"), true);
            }
        }
    }

    private static String read(String file) throws IOException {
        return Files.readString(Path.of(file), StandardCharsets.UTF_8);
    }
}
