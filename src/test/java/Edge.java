import java.io.IOException;
import java.nio.file.Files;
import java.nio.file.Path;
import java.util.ArrayList;
import java.util.BitSet;
import java.util.List;
import java.util.function.Supplier;
import java.util.function.ToIntFunction;
import java.util.regex.Matcher;
import java.util.regex.Pattern;

/**
 * Sentences of the document, each with a test of its own. A sentence must stand in the document as it is quoted here,
 * and at the end no part of the document that makes a promise may be without a test.
 */
final class Edge {
    private static final String DOC = told();
    private static final int TERMS = DOC.indexOf("A CITY is a TEXT");
    private static final int PROMISES = DOC.indexOf("## Promise 1:");
    private static final int LAST = DOC.indexOf("## Not promised");
    private static final BitSet TESTED = new BitSet();

    private static int sentences = 0;

    private Edge() {
    }

    /** The document as one line; "": it is not there, then the tests run, but no sentence is looked up. */
    private static String told() {
        Path path = Path.of("../shared/DOC.md");
        if (!Files.exists(path)) {
            System.out.println(path + " is not there: no sentence is looked up");
            return "";
        }
        try {
            String doc = Files.readString(path);
            return doc.replaceAll("```(text)?", " ").replaceAll("\\s+", " ");
        } catch (IOException e) {
            throw new IllegalStateException(e);
        }
    }

    /** A sentence ahead of the Terms. */
    static void ahead(String sentence, Runnable test) {
        says(sentence, 0, TERMS, test);
    }

    /** A sentence of the Terms. */
    static void terms(String sentence, Runnable test) {
        says(sentence, TERMS, PROMISES, test);
    }

    /** A sentence of a promise. */
    static void promise(int number, String sentence, Runnable test) {
        int from = DOC.indexOf("## Promise " + number + ":");
        int to = number == 43 ? LAST : DOC.indexOf("## Promise " + (number + 1) + ":");
        says(sentence, DOC.indexOf("`: ", from) + 3, to, test);
    }

    private static void says(String sentence, int from, int to, Runnable test) {
        sentences++;
        Kit.about(sentence);
        if (!DOC.isEmpty()) {
            lookUp(sentence, from, to);
        }
        int asked = Kit.asked();
        try {
            test.run();
        } catch (RuntimeException e) {
            Kit.due("the test ran to its end (" + e + ")", false, true);
        }
        Kit.due("the sentence was tested", Kit.asked() > asked, true);
        Kit.about("");
    }

    private static void lookUp(String sentence, int from, int to) {
        int at = DOC.indexOf(sentence, from);
        Kit.due("the sentence stands in the document", at >= from && at + sentence.length() <= to, true);
        if (at >= from) {
            TESTED.set(at, at + sentence.length());
        }
    }

    /** No word of the Terms and of the promises is left without a test. */
    static void nothingIsLeft() {
        System.out.println(sentences + " sentences have a test of their own");
        if (DOC.isEmpty()) {
            return;
        }
        List<String> left = untested(TERMS, PROMISES);
        Matcher promise = Pattern.compile("## Promise \\d+: \\w.*?`: ").matcher(DOC);
        int from = -1;
        for (int at = PROMISES; promise.find(at); at = promise.end()) {
            if (from >= 0) {
                left.addAll(untested(from, promise.start()));
            }
            from = promise.end();
        }
        left.addAll(untested(from, LAST));
        for (String words : left) {
            Kit.due("a test for \"" + words + "\"", false, true);
        }
    }

    private static List<String> untested(int from, int to) {
        List<String> left = new ArrayList<>();
        for (int at = TESTED.nextClearBit(from); at < to; at = TESTED.nextClearBit(at)) {
            int next = TESTED.nextSetBit(at);
            int end = next < 0 || next > to ? to : next;
            String words = DOC.substring(at, end).replaceAll("==== \\d\\.", "");
            if (words.matches(".*[A-Za-z0-9].*")) {
                left.add(words);
            }
            at = end;
        }
        return left;
    }

    /** The call is refused: it answers so, counts in that STATUS alone (NONE: in none) and changes nothing else. */
    static void refused(Supplier<NearlyBought> scene, ToIntFunction<NearlyBought> call, int answer, int status) {
        NearlyBought left = scene.get();
        NearlyBought called = scene.get();
        int[] before = new int[6];
        for (int what = 0; what < 6; what++) {
            before[what] = called.status(what);
        }
        Kit.due("the refused call", call.applyAsInt(called), answer);
        for (int what = 0; what < 6; what++) {
            Kit.due("STATUS " + what, called.status(what), before[what] + (what == status ? 1 : 0));
        }
        String want = Looks.of(left);
        String got = Looks.of(called);
        Kit.due("nothing changes, " + want + " becomes " + got, want.equals(got), true);
    }

    static void hours(NearlyBought x, int n) {
        for (int i = 0; i < n; i++) {
            x.hour();
        }
    }

    /** PICKED UP and put BACK: what is due. */
    static int touch(NearlyBought x, int buyer, int thing) {
        x.pick(buyer, thing);
        return x.putBack(buyer);
    }

    /** A PURSE gets so much, by as many gifts as it takes. */
    static void give(NearlyBought x, int buyer, int n) {
        for (int left = n; left > 0; left -= 50) {
            x.gift(buyer, Math.min(50, left));
        }
    }

    /** A CITY by that text and LAW ("": none), in the HOUR 9,999 less n; no CLERK looks AWAY. */
    static NearlyBought late(String text, String law, int n) {
        NearlyBought x = Kit.city(text);
        if (!law.isEmpty()) {
            Kit.law(x, law);
        }
        x.tempted(0);
        for (int left = 9999 - n; left > 0; left -= 30) {
            x.years(Math.min(30, left), left);
        }
        return x;
    }
}
