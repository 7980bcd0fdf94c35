import java.util.ArrayList;
import java.util.List;
import java.util.function.Supplier;

/** Asks an object all that can be asked; tells whether a refused call changed one of the answers. */
final class Answers {
    // An object is used for 512 calls at most: up to 160 to make it, then these twice and the refused one.
    private static final int ASKED_OF_ONE = 170;
    private static final int NODES = 30;

    interface Ask {
        Object of(ProcessMiner x);
    }

    private static final List<Ask> ASKS = new ArrayList<>();
    private static final List<String> NAMES = new ArrayList<>();
    private static final List<Ask> CHANGES = List.of(ProcessMiner::mine, ProcessMiner::dropTrace, x -> x.event(7),
            x -> x.endTrace(0), x -> x.endTrace(99), x -> x.setTimes(0, 0), x -> x.setTimes(0, 1),
            x -> x.setTimes(9, 5));

    static {
        addOfLog();
        addOfTraces();
        addOfTree();
    }

    private Answers() {
    }

    private static void add(String name, Ask ask) {
        NAMES.add(name);
        ASKS.add(ask);
    }

    private static void addOfLog() {
        add("traceCount", ProcessMiner::traceCount);
        add("labels", ProcessMiner::labels);
        add("edges(false)", x -> x.edges(false));
        add("edges(true)", x -> x.edges(true));
        add("variants", ProcessMiner::variants);
        add("digest", ProcessMiner::digest);
        for (int i = 0; i < 64; i++) {
            int a = i / 8;
            int b = i % 8;
            add("follows " + a + " " + b, x -> x.follows(a, b));
            add("relation " + a + " " + b, x -> x.relation(a, b));
            add("leads " + a + " " + b, x -> x.leads(a, b));
        }
    }

    private static void addOfTraces() {
        for (int t = 0; t < 11; t++) {
            int trace = t;
            add("length " + t, x -> x.length(trace));
            add("accepts " + t, x -> x.accepts(trace));
            for (int p = 0; p < 13; p++) {
                int place = p;
                add("labelAt " + t + " " + p, x -> x.labelAt(trace, place));
            }
        }
    }

    private static void addOfTree() {
        add("height", ProcessMiner::height);
        add("fitness", ProcessMiner::fitness);
        add("acceptsBuffer", ProcessMiner::acceptsBuffer);
        for (int l = 0; l < 4; l++) {
            int length = l;
            add("words " + l, x -> x.words(length));
        }
        for (int n = 0; n < NODES; n++) {
            int node = n;
            add("kind " + n, x -> x.kind(node));
            add("labelsOf " + n, x -> x.labelsOf(node));
            add("parent " + n, x -> x.parent(node));
            add("children " + n, x -> x.children(node));
            add("shortest " + n, x -> x.shortest(node));
            for (int i = 0; i < 9; i++) {
                int index = i;
                add("child " + n + " " + i, x -> x.child(node, index));
            }
        }
    }

    static Object tell(ProcessMiner x, Ask ask) {
        try {
            return ask.of(x);
        } catch (RuntimeException e) {
            return e.getClass();
        }
    }

    /** All answers of objects that are made alike, each of which is asked a part of them. */
    static List<String> all(Supplier<ProcessMiner> made) {
        List<String> answers = new ArrayList<>();
        for (int from = 0; from < ASKS.size(); from += ASKED_OF_ONE) {
            answers.addAll(some(made.get(), from));
        }
        return answers;
    }

    private static List<String> some(ProcessMiner x, int from) {
        List<String> answers = new ArrayList<>();
        for (int i = from; i < Math.min(from + ASKED_OF_ONE, ASKS.size()); i++) {
            answers.add(NAMES.get(i) + " = " + tell(x, ASKS.get(i)));
        }
        return answers;
    }

    /** The call throws just this exception, and every other call answers the same before and after it. */
    static void refused(String what, Supplier<ProcessMiner> made, Class<? extends RuntimeException> want, Ask call) {
        for (int from = 0; from < ASKS.size(); from += ASKED_OF_ONE) {
            ProcessMiner x = made.get();
            List<String> before = some(x, from);
            Check.due(what, tell(x, call), want);
            List<String> after = some(x, from);
            dueSame(what, after, before);
        }
        for (Ask change : CHANGES) {
            ProcessMiner untouched = made.get();
            ProcessMiner refusing = made.get();
            tell(refusing, call);
            Check.due("a change after " + what, tell(refusing, change), tell(untouched, change));
            Check.due("digest of a change after " + what, refusing.digest(), untouched.digest());
        }
    }

    static void dueSame(String what, List<String> got, List<String> want) {
        Check.due("number of answers, " + what, got.size(), want.size());
        for (int i = 0; i < Math.min(got.size(), want.size()); i++) {
            Check.due("an answer, " + what, got.get(i), want.get(i));
        }
    }
}
