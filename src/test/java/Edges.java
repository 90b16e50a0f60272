import java.nio.file.Path;
import java.util.ArrayList;
import java.util.List;

/**
 * Runs of calls on new objects, each run for one sentence of the document: every answer is as due (the one of Plain,
 * too, so that the drawn runs against it stand on firm ground), and what is refused has changed nothing.
 */
final class Edges {
    private static final int MOST_CALLS = 512;
    private static final int[] FAR_OFF = {Integer.MIN_VALUE, Integer.MAX_VALUE};

    private final Check check = new Check("EdgesTest");
    private final Doc doc;
    private final List<String> calls = new ArrayList<>();
    private int promise;
    private String sentence;
    private HalfASize x;
    private Plain p;

    Edges() throws Exception {
        doc = Doc.read(Path.of("../shared/DOC.md"));
        if (doc == null) {
            System.out.println("EdgesTest: no ../shared/DOC.md, so its sentences are not looked up");
        }
    }

    /** From now on a sentence of the document, that a promise stands on, is held; the object is a new one. */
    Edges holds(int promise, String sentence) {
        this.promise = promise;
        this.sentence = sentence;
        if (doc != null && !doc.hold(promise, sentence)) {
            check.due("promise " + promise + " says \"" + sentence + "\": whether", 1, 0);
        }
        return anew();
    }

    /** Another new object for the same sentence. */
    Edges anew() {
        calls.clear();
        x = new HalfASize();
        p = new Plain();
        return this;
    }

    /** Calls whose answers are not what is looked at. */
    Edges does(String... some) {
        for (String call : some) {
            call(call);
        }
        return this;
    }

    Edges type(String letters) {
        for (int i = 0; i < letters.length(); i++) {
            call("feed(" + (int) letters.charAt(i) + ")");
        }
        return this;
    }

    /** A sheet of these numbers. */
    Edges fill(int sheet, int sort, int... numbers) {
        call("sheet(" + sheet + ", " + sort + ", " + numbers.length + ")");
        for (int i = 0; i < numbers.length; i++) {
            call("cell(" + sheet + ", " + i + ", " + numbers[i] + ")");
        }
        return this;
    }

    Edges is(String call, long due) {
        calls.add(call);
        if (calls.size() > MOST_CALLS) {
            throw new IllegalStateException("more than " + MOST_CALLS + " calls of one object");
        }
        check.due(named(call), due, answer(x, call));
        check.due(named(call) + ", in Plain,", due, answer(p, call));
        return this;
    }

    Edges refused(String call, long due) {
        for (int part = 0; part < Whole.PARTS; part++) {
            HalfASize with = again();
            answer(with, call);
            boolean same = Whole.seen(with, part).equals(Whole.seen(again(), part));
            check.due(named(call) + " changes nothing: whether", 1, same ? 1 : 0);
        }
        return is(call, due);
    }

    /** A call with %d in it is refused just below and just above what is told, and far off. */
    Edges outside(String call, int least, int greatest, long due) {
        refused(String.format(call, least - 1), due);
        refused(String.format(call, greatest + 1), due);
        for (int far : FAR_OFF) {
            refused(String.format(call, far), due);
        }
        return this;
    }

    /** What is seen of the class without a call. */
    Edges same(String what, long due, long got) {
        check.due(named(what), due, got);
        return this;
    }

    /** Whether every sentence of the document is held by some test. */
    void end() {
        if (doc != null) {
            List<String> notHeld = doc.notHeld();
            notHeld.forEach(words -> System.out.println("EdgesTest: no test holds " + words));
            check.due("words that no test holds", 0, notHeld.size());
        }
        check.end();
    }

    private void call(String call) {
        calls.add(call);
        answer(x, call);
        answer(p, call);
    }

    /** What is thrown is no answer: it is told as a wrong one, and the other sentences are still looked at. */
    private long answer(Object of, String call) {
        try {
            return Calls.answer(of, call);
        } catch (IllegalStateException e) {
            check.due(named(call) + " threw " + e.getCause() + ": whether", 0, 1);
            return Long.MIN_VALUE;
        }
    }

    private HalfASize again() {
        if (calls.size() + Whole.MOST_CALLS >= MOST_CALLS) {
            throw new IllegalStateException("too many calls ahead of a refused one: " + calls.size());
        }
        HalfASize other = new HalfASize();
        for (String call : calls) {
            answer(other, call);
        }
        return other;
    }

    private String named(String call) {
        return "promise " + promise + ", \"" + sentence + "\": after " + calls.size() + " calls " + call;
    }
}
