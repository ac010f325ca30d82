import java.io.IOException;
import java.io.UncheckedIOException;
import java.nio.file.Files;
import java.nio.file.Path;
import java.util.LinkedHashMap;
import java.util.Map;
import java.util.function.ToLongFunction;
import java.util.regex.Matcher;
import java.util.regex.Pattern;

/**
 * Ties tests to the document: a test quotes the sentence that it is about, each sentence has answers of its own, and
 * a heading of which words are left over that no test has quoted fails.
 */
final class Sentences {
    private final Due due = new Due();
    private final Map<String, String> texts = headings();
    private String heading = "";
    private String left = "";
    private String sentence = "";
    private int answers = 1;

    /** The words under each heading: "1" to "60" of the promises, "I" to "VII" of the terms. */
    static Map<String, String> headings() {
        String document;
        try {
            document = Files.readString(Path.of("../shared/DOC.md"));
        } catch (IOException e) {
            throw new UncheckedIOException(e);
        }
        Map<String, String> all = new LinkedHashMap<>();
        String terms = document.substring(document.indexOf("## Terms"), document.indexOf("## Promise 1:"));
        Matcher term = Pattern.compile("^([IV]+)\\. (.*?)(?=^[IV]+\\. |\\z)", Pattern.MULTILINE | Pattern.DOTALL).matcher(terms);
        while (term.find()) all.put(term.group(1), term.group(2).replace("```text", "").replace("```", ""));
        Matcher promise = Pattern.compile("^## Promise (\\d+): .*\n\n`[^`]*`: (.*)$", Pattern.MULTILINE).matcher(document);
        while (promise.find()) all.put(promise.group(1), promise.group(2));
        return all;
    }

    /** Goes on to the next heading. */
    void of(String next) {
        endHeading();
        heading = next;
        left = texts.getOrDefault(next, "");
        due.is("there is a heading " + next, 1, texts.containsKey(next) ? 1 : 0);
    }

    /** Goes on to the next sentence, or part of one, of this heading. */
    void says(String next) {
        endSentence();
        sentence = next;
        int at = left.indexOf(next);
        due.is(heading + " says once more: " + next, 1, at >= 0 ? 1 : 0);
        if (at >= 0) left = left.substring(0, at) + " | " + left.substring(at + next.length());
    }

    void is(String call, long want, long got) {
        answers++;
        due.is(heading + " \"" + sentence + "\": " + call, want, got);
    }

    /** What two objects answer, or one before and after: alike. */
    void same(String call, String want, String got) {
        answers++;
        due.is(heading + " \"" + sentence + "\": " + call + (want.equals(got) ? "" : ": " + want + " became " + got), 1, want.equals(got) ? 1 : 0);
    }

    private static final String LINES = "rail places 5 nights 10;lamp at 1 bright 3;lock price 20 cuts 10 20 30;lock price 50 cuts 100 200 300;%s"
        + "thief tool 0 comes 50 fears 10 best;thief tool 1 comes 20 fears 50 any;thief tool 2 comes 90 fears 1 just 2;"
        + "mark price 5 known 50;watch wage 7 adds 2;";

    /** A RAIL as it was told, with nothing changed but that a watchman stands there. */
    static LockRail asTold() {
        LockRail x = Due.rail(String.format(LINES, "bike worth 100 seems 80 at 3 lock 0 marked;bike worth 200 seems 150 at 1;"
            + "bike worth 50 seems 60 at 0 lock 1;"));
        x.watch(true);
        return x;
    }

    /** The same RAIL, made of another by changes. */
    static LockRail asChanged() {
        LockRail x = Due.rail(String.format(LINES, "bike worth 100 seems 80 at 0;bike worth 200 seems 150 at 1 lock 1 marked;"
            + "bike worth 50 seems 60 at 4 lock 0 marked;"));
        x.all(2);
        x.option(0, 3);
        x.option(1, 0);
        x.option(2, 4);
        x.move(0, 3);
        x.move(2, 0);
        x.watch(true);
        return x;
    }

    /** The same RAIL, gone back to from another. */
    static LockRail asKept() {
        LockRail x = asChanged();
        x.keep(1);
        Due.feed(x, "rail places 2 nights 1;bike worth 1 seems 1 at 0;thief tool 2 comes 9 fears 0 just 0;");
        x.rail();
        x.all(2);
        x.back(1);
        return x;
    }

    /** A call answers by what is there now, however it came to be so. */
    void answersByWhatIsThere(String call, ToLongFunction<LockRail> f) {
        long want = f.applyAsLong(asTold());
        is(call + " when it is the first call behind changes", want, f.applyAsLong(asChanged()));
        is(call + " when it is the first call behind back", want, f.applyAsLong(asKept()));
    }

    /** A call that only asks: all stays as it is. */
    void asks(String call, ToLongFunction<LockRail> f) {
        LockRail x = asChanged();
        x.run(3);
        x.row(0, 1, 4);
        String before = look(x);
        long first = f.applyAsLong(x);
        same(call + " leaves all as it is", before, look(x));
        is(call + " once more", first, f.applyAsLong(x));
        answersByWhatIsThere(call, f);
    }

    /** A call that is refused: its answer, and all stays as it is. */
    void refused(String call, long want, LockRail x, ToLongFunction<LockRail> f) {
        String before = look(x);
        is(call, want, f.applyAsLong(x));
        same(call + " changes nothing", before, look(x));
    }

    void close() {
        endHeading();
        due.close();
    }

    private void endSentence() {
        due.is(heading + " \"" + sentence + "\": has an answer of its own", 1, answers > 0 ? 1 : 0);
        answers = 0;
    }

    private void endHeading() {
        endSentence();
        answers = 1;
        sentence = "";
        due.is(heading + ": no test quotes" + left, 0, left.chars().filter(Character::isLetterOrDigit).count());
        left = "";
    }

    /** All that can be seen of an object without changing it, but for what its SLOTS have. */
    static String look(LockRail x) {
        StringBuilder s = new StringBuilder();
        for (int what = 0; what <= 12; what++) s.append(x.count(what)).append(' ');
        s.append("fault ").append(x.fault(0)).append(' ').append(x.fault(1));
        for (int place = 0; place < x.count(0); place++) s.append(" light ").append(x.light(place));
        for (int bike = 0; bike < x.count(4); bike++) {
            s.append(" bike");
            for (int what = 0; what < 5; what++) s.append(' ').append(x.bike(bike, what));
            s.append(' ').append(x.taken(bike));
        }
        for (int thief = 0; thief < x.count(5); thief++) s.append(" thief ").append(x.took(thief));
        return s.toString();
    }
}
