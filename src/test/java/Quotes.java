import java.util.ArrayList;
import java.util.List;
import java.util.regex.Matcher;
import java.util.regex.Pattern;

/** The document, part by part, and which of its words the tests of edges quote. */
final class Quotes {
    private static final Pattern PROMISE = Pattern.compile("## Promise (\\d+): [^\\n]*\\n(.*?)(?=\\n## |\\z)", Pattern.DOTALL);
    private static final Pattern HEAD = Pattern.compile("## What it is\\n(.*?)(?=\\n## )", Pattern.DOTALL);
    private static final Pattern TERMS = Pattern.compile("## Terms\\n(.*?)\\nThe constants:", Pattern.DOTALL);
    private static final Pattern REFUSAL = Pattern.compile("(NONE|false|-1|-100|-1000): |NONE, |NoSuchElementException if");
    private static final Pattern LEFT_OUT = Pattern.compile("\\d[\\d,]*|\\([^()]*\\)|-2");

    /** Words of the document in one line, and which of them are quoted. */
    private static final class Part {
        final String name;
        final String text;
        final boolean[] quoted;

        Part(String ofName, String words) {
            name = ofName;
            text = words.replaceAll("```(text)?|`[^`]*`", " ").replaceAll("\\s+", " ").strip();
            quoted = new boolean[text.length()];
        }

        boolean quote(String words) {
            int from = text.indexOf(words);
            for (int i = from; from >= 0 && i < from + words.length(); i++) {
                quoted[i] = true;
            }
            return from >= 0;
        }

        void mustBeQuoted(int from, int to) {
            for (int i = from; i < to; i++) {
                if (!quoted[i] && text.charAt(i) != ';' && text.charAt(i) != ' ') {
                    Checks.fail(name + ": no test of an edge quotes \"" + text.substring(from, to) + "\" of \"" + text + "\"");
                    return;
                }
            }
            Checks.due("quoted", 0, 0);
        }
    }

    private final Part[] promises = new Part[Checks.PROMISES + 1];
    private final Part head;
    private final Part terms;

    Quotes(String document) {
        head = new Part("what it is", only(HEAD, document));
        terms = new Part("terms", only(TERMS, document));
        Matcher matcher = PROMISE.matcher(document);
        while (matcher.find()) {
            int number = Integer.parseInt(matcher.group(1));
            if (number >= 1 && number < promises.length) {
                promises[number] = new Part("promise " + number, matcher.group(2));
            }
        }
    }

    private static String only(Pattern pattern, String document) {
        Matcher matcher = pattern.matcher(document);
        return matcher.find() ? matcher.group(1) : "";
    }

    private List<Part> parts() {
        List<Part> parts = new ArrayList<>();
        for (Part part : promises) {
            if (part != null) {
                parts.add(part);
            }
        }
        return parts;
    }

    void add(int promise, String words, String test) {
        Checks.promise(promise);
        boolean inPromise = promises[promise] != null && promises[promise].quote(words);
        boolean inTerms = terms.quote(words);
        boolean inHead = head.quote(words);
        Checks.due(test + " quotes \"" + words + "\"", inPromise || inTerms || inHead, true);
    }

    /** What names bounds: numbers, words in brackets, and from where a refusal is told to its end. */
    void tellWhatIsLeftOut() {
        Checks.promise(0);
        Checks.due("promises in the document", parts().size(), Checks.PROMISES);
        for (Part part : parts()) {
            Matcher matcher = LEFT_OUT.matcher(part.text);
            while (matcher.find()) {
                part.mustBeQuoted(matcher.start(), matcher.end());
            }
            Matcher refusal = REFUSAL.matcher(part.text);
            if (refusal.find()) {
                part.mustBeQuoted(refusal.start(), part.text.length() - 1);
            }
        }
        for (Part part : List.of(head, terms)) {
            Matcher matcher = Pattern.compile("\\d[\\d,]*").matcher(part.text);
            while (matcher.find()) {
                part.mustBeQuoted(matcher.start(), matcher.end());
            }
        }
    }
}
