import java.util.ArrayList;
import java.util.List;

/** A test of one sentence of the document, told by a promise's number and the sentence's words. */
final class Edge {
    private static final List<Edge> ALL = new ArrayList<>();
    private static String now = "";

    final int promise;
    final boolean ofTerms;
    final String sentence;

    private Edge(int promise, boolean ofTerms, String sentence) {
        this.promise = promise;
        this.ofTerms = ofTerms;
        this.sentence = sentence;
    }

    static List<Edge> all() {
        return ALL;
    }

    /** A sentence of the promise itself. */
    static void of(int promise, String sentence, Runnable test) {
        go(new Edge(promise, false, sentence), test);
    }

    /** A sentence of the terms, shown by calls of that promise. */
    static void term(int promise, String sentence, Runnable test) {
        go(new Edge(promise, true, sentence), test);
    }

    private static void go(Edge edge, Runnable test) {
        ALL.add(edge);
        now = "promise " + edge.promise + ", '" + edge.sentence + "': ";
        int before = Check.checkedSoFar();
        test.run();
        int made = Check.checkedSoFar() - before;
        due("checks something", made > 0, true);
        now = "";
    }

    static void due(String call, long got, long want) {
        Check.due(now + call, got, want);
    }

    static void due(String call, boolean got, boolean want) {
        Check.due(now + call, got, want);
    }

    static void alike(String call, String got, String want) {
        Check.due(now + call + " " + got + ", due is " + want, got.equals(want), true);
    }

    static void noSuch(String call, java.util.function.LongSupplier made) {
        Check.noSuch(now + call, made);
    }

    static void illegal(String call, java.util.function.LongSupplier made) {
        Check.illegal(now + call, made);
    }

    /** A new desk that is told a text without a fault. */
    static BarredSuits told(String text) {
        BarredSuits x = new BarredSuits();
        due("a text without a fault, " + text + ",", Check.desk(x, text) >= 0, true);
        return x;
    }

    /** What a new desk makes of a text: no fault (which 0, place -1), or that one at that place. */
    static void fault(String text, int which, int place) {
        BarredSuits x = new BarredSuits();
        int answer = Check.desk(x, text);
        due("desk(" + text + ")", answer, which == 0 ? x.count(2) : -10 - which);
        due("fault() of " + text, x.fault(), place);
    }

    static void fine(String text) {
        fault(text, 0, -1);
    }

    static void question(BarredSuits x, String text, int want) {
        due("ask(" + text + ")", Check.ask(x, text), want);
        due("fault() of " + text, x.fault(), -1);
    }

    static void wrongQuestion(BarredSuits x, String text, int which, int place) {
        due("ask(" + text + ")", Check.ask(x, text), -1000000000 - which);
        due("fault() of " + text, x.fault(), place);
    }

    static String persons(int many) {
        StringBuilder text = new StringBuilder();
        for (int i = 0; i < many; i++) {
            text.append("person ").append((char) ('a' + i)).append(';');
        }
        return text.toString();
    }

    static String times(String text, int many) {
        StringBuilder row = new StringBuilder();
        for (int i = 0; i < many; i++) {
            row.append(text);
        }
        return row.toString();
    }

    /** Numbers from the first to the last, a blank ahead of each. */
    static String row(int first, int last) {
        StringBuilder text = new StringBuilder();
        for (int i = first; i <= last; i++) {
            text.append(' ').append(i);
        }
        return text.toString();
    }

    /** What can be looked at of a small desk, to see that nothing changed: few calls, as an object has only 512. */
    static String state(BarredSuits x) {
        StringBuilder all = new StringBuilder();
        for (int what = 0; what <= 10; what++) {
            all.append(x.count(what)).append(' ');
        }
        int letters = x.count(0) * 2;
        int ofLinks = x.count(1) * 5;
        int ofSuits = x.count(2) * 15;
        for (int i = 0; i < letters; i++) {
            all.append(x.letter(i / 2, i % 2)).append(' ');
        }
        for (int i = 0; i < ofLinks; i++) {
            all.append(x.link(i / 5, i % 5)).append(' ');
        }
        for (int i = 0; i < ofSuits; i++) {
            all.append(x.suit(i / 15, i % 15)).append(' ');
        }
        all.append(x.fault()).append(' ');
        for (int i = 0; i <= 10; i += 5) {
            all.append(x.said(i)).append(' ');
        }
        return all.toString();
    }
}
