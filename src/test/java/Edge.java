import java.io.IOException;
import java.nio.charset.StandardCharsets;
import java.nio.file.Files;
import java.nio.file.Path;
import java.util.ArrayList;
import java.util.Arrays;
import java.util.LinkedHashMap;
import java.util.List;
import java.util.Map;
import java.util.function.Supplier;
import java.util.function.ToLongFunction;

/**
 * Tests by the document's own sentences: each begins with the sentence's words and the section where they stand ("7" is
 * Promise 7; the others are below), and whatever fails is told by both.
 */
final class Edge {
    static final String WHAT = "What it is";
    static final String FACE = "The public face";
    static final String NOT_PROMISED = "Not promised";
    static final String WELL = "1. THE WELL";
    static final String SHOUT = "2. A SHOUT";
    static final String COMES = "3. WHAT COMES OF IT";
    static final String REFUSALS = "REFUSALS";
    static final String BY_A_WORD = "BY A WORD";

    private static final Map<String, List<String>> QUOTES = new LinkedHashMap<>();
    private static String section = "";
    private static String quote = "";
    private static int checks;

    private Edge() {
    }

    /** What follows holds this sentence. */
    static void sentence(String where, String words) {
        endSentence();
        section = where;
        quote = words;
        checks = 0;
        QUOTES.computeIfAbsent(where, key -> new ArrayList<>()).add(words);
    }

    static void endSentence() {
        if (!quote.isEmpty()) {
            Check.holds(section + ": \"" + quote + "\" has a test", checks > 0);
        }
    }

    static void due(String what, long got, long want) {
        checks++;
        Check.due(section + ": \"" + quote + "\": " + what, got, want);
    }

    static void holds(String what, boolean so) {
        due(what, so ? 1 : 0, 1);
    }

    /** The call answers the refusal; nothing changes but how many of it there were. */
    static void refused(String what, Supplier<WellIsAskedFirst> scene, int refusal, ToLongFunction<WellIsAskedFirst> call) {
        WellIsAskedFirst x = scene.get();
        due(what, call.applyAsLong(x), refusal);
        sameAs(what, x, scene.get(), refusal);
    }

    /** The call answers just that; nothing is refused, and nothing changes. */
    static void asked(String what, Supplier<WellIsAskedFirst> scene, long want, ToLongFunction<WellIsAskedFirst> call) {
        WellIsAskedFirst x = scene.get();
        due(what, call.applyAsLong(x), want);
        sameAs(what, x, scene.get(), 0);
    }

    /** The call is no refusal: it answers something, and nothing changes. */
    static void answers(String what, Supplier<WellIsAskedFirst> scene, ToLongFunction<WellIsAskedFirst> call) {
        WellIsAskedFirst x = scene.get();
        holds(what + " answers", call.applyAsLong(x) >= Check.NONE);
        sameAs(what, x, scene.get(), 0);
    }

    /** The call answers just that and refuses nothing; it may change what it is for. */
    static void granted(String what, WellIsAskedFirst x, long want, ToLongFunction<WellIsAskedFirst> call) {
        int[] before = Check.refusals(x);
        due(what, call.applyAsLong(x), want);
        holds(what + ": nothing is refused", Arrays.equals(before, Check.refusals(x)));
    }

    /** All that can be seen of x is as it is of the other one, but for one refusal more, if there was one. */
    private static void sameAs(String what, WellIsAskedFirst x, WellIsAskedFirst other, int refusal) {
        long[] got = everything(x);
        long[] want = everything(other);
        if (refusal != 0) {
            want[-2 - refusal]++;
        }
        due(what + ": how much there is to see", got.length, want.length);
        for (int i = 0; i < Math.min(got.length, want.length); i++) {
            if (got[i] != want[i]) {
                due(what + ": then, of all there is, the " + i + ".", got[i], want[i]);
                return;
            }
        }
    }

    /** How many of each refusal there were; then the well and its voices, shelves, what THE TAPE says, what is kept. */
    private static long[] everything(WellIsAskedFirst x) {
        List<Long> seen = new ArrayList<>();
        wellAndVoices(x, seen);
        for (int what = 12; what <= 16; what++) {
            seen.add(what - 12, (long) x.status(what));
        }
        for (int s = 0; s < 8; s++) {
            seen.add((long) x.holds(s));
            for (int i = 0; i < 14; i++) {
                seen.add(x.element(s, i));
            }
            seen.add(x.element(s, 39));
        }
        seen.add((long) x.well());
        wellAndVoices(x, seen);
        seen.add((long) x.again());
        wellAndVoices(x, seen);
        return seen.stream().mapToLong(Long::longValue).toArray();
    }

    private static void wellAndVoices(WellIsAskedFirst x, List<Long> seen) {
        for (int what = 0; what <= 11; what++) {
            seen.add((long) x.status(what));
        }
        for (int voice = 0; voice < x.status(0); voice++) {
            for (int what = 0; what < 3; what++) {
                seen.add((long) x.voiceOf(voice, what));
            }
        }
    }

    /** Every sentence that a test names stands in the document, where it says; and every word there is in one of them. */
    static void looksAt(Path document) throws IOException {
        endSentence();
        quote = "";
        if (!Files.isReadable(document)) {
            System.out.println("no document at " + document + ": what stands in it is not looked at");
            return;
        }
        Map<String, String> sections = sectionsOf(Files.readString(document, StandardCharsets.UTF_8));
        for (String where : QUOTES.keySet()) {
            Check.holds("the document has " + where, sections.containsKey(where));
        }
        for (Map.Entry<String, String> entry : sections.entrySet()) {
            String where = entry.getKey();
            StringBuilder left = new StringBuilder(entry.getValue());
            for (String words : QUOTES.getOrDefault(where, List.of())) {
                int at = entry.getValue().indexOf(words);
                Check.holds(where + " says \"" + words + "\"", at >= 0);
                for (int i = at; at >= 0 && i < at + words.length(); i++) {
                    left.setCharAt(i, ' ');
                }
            }
            String untested = left.toString().replaceAll("[^A-Za-z0-9]+", " ").trim();
            Check.holds(where + " has words without a test: " + untested, untested.isEmpty());
        }
    }

    /** The document's text by section, in one line each, without the signatures. */
    private static Map<String, String> sectionsOf(String text) {
        Map<String, StringBuilder> sections = new LinkedHashMap<>();
        String where = WHAT;
        for (String line : text.split("\n")) {
            String words = line;
            if (line.startsWith("## ")) {
                where = line.replaceAll("## (Promise (\\d+):.*)?", "$2");
                words = "";
            } else if (line.startsWith("==== ")) {
                where = line.replaceAll("==== | \\(.*", "");
                words = line.substring(5 + where.length());
            } else if (line.startsWith("REFUSALS ")) {
                where = REFUSALS;
            } else if (line.startsWith("```")) {
                where = where.equals(REFUSALS) ? BY_A_WORD : where;
                words = "";
            }
            sections.computeIfAbsent(where, key -> new StringBuilder()).append(' ').append(words);
        }
        Map<String, String> lines = new LinkedHashMap<>();
        sections.forEach((key, words) -> lines.put(key, words.toString().replaceAll("`[^`]*`", " ").replaceAll("\\s+", " ")));
        return lines;
    }
}
