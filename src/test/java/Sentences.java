import java.nio.charset.StandardCharsets;
import java.nio.file.Files;
import java.nio.file.Path;
import java.util.ArrayList;
import java.util.BitSet;
import java.util.LinkedHashMap;
import java.util.List;
import java.util.Map;

/**
 * The document's sentences, and which of them have a test. Every group of checks begins by telling the words it belongs
 * to; these must stand in their section of ../shared/DOC.md, and at the end no word of it may be left without a group.
 */
final class Sentences {
    private static final Path DOCUMENT = Path.of("../shared/DOC.md");
    /** Sections by their keys: W what it is, T1 to T4 the terms, C the constants, 1 to 42 the promises. */
    private final Map<String, String> sections = new LinkedHashMap<>();
    private final Map<String, BitSet> quoted = new LinkedHashMap<>();
    private final Checks checks;
    private String under = "";
    private int groups;

    Sentences(Checks checks) throws Exception {
        this.checks = checks;
        if (Files.exists(DOCUMENT)) {
            split(Files.readString(DOCUMENT, StandardCharsets.UTF_8));
        } else {
            System.out.println(DOCUMENT + " is not there: the words of the tests are not looked up");
        }
    }

    private void split(String document) {
        String text = plain(document.replace("```text", " ").replace("```", " "));
        cut("W", text, "An object is used", "## The public face");
        cut("T1", text, "A HEDGE is", "==== 2. ");
        cut("T2", text, "==== 2. ", "==== 3. ");
        cut("T3", text, "==== 3. ", "==== 4. ");
        cut("T4", text, "==== 4. ", "The constants: ");
        cut("C", text, "The constants: ", "## Promise 1:");
        for (int n = 1; n <= 42; n++) {
            String body = between(text, "## Promise " + n + ":", n == 42 ? "## Not promised" : "## Promise " + (n + 1) + ":");
            // Behind the signature in its back quotes.
            add(String.valueOf(n), body.substring(body.lastIndexOf("`: ") + 3));
        }
    }

    private void cut(String key, String text, String from, String to) {
        add(key, between(text, from, to).replaceFirst("^==== . ?", ""));
    }

    private void add(String key, String words) {
        sections.put(key, words.trim());
        quoted.put(key, new BitSet());
    }

    private static String between(String text, String from, String to) {
        int start = text.indexOf(from);
        int end = text.indexOf(to, start + from.length());
        return start < 0 || end < 0 ? "" : text.substring(start, end);
    }

    private static String plain(String text) {
        return text.replaceAll("\\s+", " ").trim();
    }

    /** The checks from here on belong to these words of this section. */
    void of(String section, String words) {
        under = section + " '" + words + "': ";
        groups++;
        if (sections.isEmpty()) {
            return;
        }
        int at = sections.getOrDefault(section, "").indexOf(plain(words));
        checks.due("the document says in " + under, at >= 0, true);
        if (at >= 0) {
            quoted.get(section).set(at, at + plain(words).length());
        }
    }

    void due(String call, long got, long want) {
        checks.due(under + call, got, want);
    }

    void due(String call, boolean got, boolean want) {
        checks.due(under + call, got, want);
    }

    /** What a call must answer, told as a row. */
    void dueRow(String call, int[] got, int... want) {
        due(call + ", how many", got.length, want.length);
        for (int i = 0; i < got.length && i < want.length; i++) {
            due(call + " [" + i + "]", got[i], want[i]);
        }
    }

    /** The text has this fault where the ^ stands. */
    void refused(int fault, String marked) {
        int place = marked.indexOf('^');
        String text = marked.substring(0, place) + marked.substring(place + 1);
        HedgeRecord x = new HedgeRecord();
        String shown = marked.replace("\n", "\\n");
        due("hedge() of " + shown, Checks.read(x, text), HedgeRecord.NONE);
        due("fault(0) of " + shown, x.fault(0), fault);
        due("fault(1) of " + shown, x.fault(1), place);
    }

    /** The text has no fault; the object that was told it. */
    HedgeRecord taken(String text) {
        HedgeRecord x = new HedgeRecord();
        String shown = text.replace("\n", "\\n");
        due("hedge() of " + shown + " is taken", Checks.read(x, text) != HedgeRecord.NONE, true);
        due("fault(0) of " + shown, x.fault(0), 0);
        due("fault(1) of " + shown, x.fault(1), HedgeRecord.NONE);
        return x;
    }

    /** What is asked of both must be answered alike. */
    void alike(String call, List<String> got, List<String> want) {
        int wrong = -1;
        for (int i = 0; i < Math.max(got.size(), want.size()) && wrong < 0; i++) {
            if (i >= got.size() || i >= want.size() || !got.get(i).equals(want.get(i))) {
                wrong = i;
            }
        }
        if (wrong >= 0) {
            System.out.println("found " + (wrong < got.size() ? got.get(wrong) : "no more")
                + " where " + (wrong < want.size() ? want.get(wrong) : "no more") + " is due");
        }
        due(call, wrong, -1);
    }

    /** Every word of the sections must stand in the words of some group. */
    void lookForUntested() {
        for (Map.Entry<String, String> section : sections.entrySet()) {
            for (String words : untested(section.getValue(), quoted.get(section.getKey()))) {
                checks.due("no test belongs to the words of " + section.getKey() + ": " + words, 1, 0);
            }
        }
        System.out.println(groups + " sentences");
    }

    private static List<String> untested(String words, BitSet covered) {
        List<String> found = new ArrayList<>();
        int from = covered.nextClearBit(0);
        while (from < words.length()) {
            int to = covered.nextSetBit(from);
            int end = to < 0 ? words.length() : to;
            String left = words.substring(from, end);
            if (left.matches(".*[A-Za-z0-9].*")) {
                found.add(left.trim());
            }
            from = covered.nextClearBit(end);
        }
        return found;
    }
}
