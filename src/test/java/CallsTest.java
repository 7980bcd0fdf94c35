import java.math.BigInteger;
import java.util.ArrayList;
import java.util.List;
import java.util.function.Supplier;

/** Each sentence of promises 1 to 27, at the cases on its boundary; a refused call leaves all answers as they were. */
final class CallsTest {
    private static final Class<IndexOutOfBoundsException> BOUNDS = IndexOutOfBoundsException.class;
    private static final Class<IllegalArgumentException> ARGUMENT = IllegalArgumentException.class;
    private static final Class<IllegalStateException> STATE = IllegalStateException.class;
    private static final int MIN = Integer.MIN_VALUE;
    private static final int MAX = Integer.MAX_VALUE;
    // Times 12, the first of these wraps around to 8; so does the second one times 8, to 0.
    private static final int[] FAR = {MIN, MIN + 1, -1, MAX, MAX - 1, 357913942, 536870912};
    private static final int[] NO_LABELS = {MIN, -1, 8, 32, MAX};
    private static final int[] NO_TIMES = {MIN, -1, 100, 256, MAX};
    private static final String TWELVE = "012345670123";
    private static final String NO_TREE =
            "Throws `IllegalStateException` if nothing was mined since the last change";
    private static final String NO_NODE = "Throws `IndexOutOfBoundsException` if there is no such node";

    private static final Sentences SENTENCES = new Sentences();

    private CallsTest() {
    }

    public static void main(String[] args) {
        newObject();
        event();
        endTrace();
        setTimes();
        dropTrace();
        traceCountAndLength();
        labelAt();
        labels();
        follows();
        edges();
        relation();
        leads();
        variants();
        mine();
        kind();
        labelsOf();
        parent();
        children();
        child();
        shortest();
        height();
        accepts();
        acceptsBuffer();
        fitness();
        words();
        digest();
        for (int promise = 1; promise <= 27; promise++) {
            SENTENCES.dueAll("Promise " + promise);
        }
        Check.finish("CallsTest");
    }

    private static void test(int promise, String sentence, Runnable checks) {
        SENTENCES.test("Promise " + promise, sentence, checks);
    }

    private static void pass(int promise, String... sentences) {
        for (String sentence : sentences) {
            SENTENCES.pass("Promise " + promise, sentence);
        }
    }

    private static void due(String what, Object got, Object want) {
        Check.due(what, got, want);
    }

    private static void dueThrown(String what, ProcessMiner x, Class<? extends RuntimeException> want,
            Answers.Ask call) {
        long digest = x.digest();
        due(what, Answers.tell(x, call), want);
        due("digest after " + what, x.digest(), digest);
    }

    private interface OfInt {
        Object of(ProcessMiner x, int number);
    }

    private interface OfInts {
        Object of(ProcessMiner x, int first, int second);
    }

    private static void refused(Supplier<ProcessMiner> made, Class<? extends RuntimeException> want, OfInt call,
            int... numbers) {
        for (int number : numbers) {
            Answers.refused("the call with " + number, made, want, x -> call.of(x, number));
        }
    }

    private static ProcessMiner bare() {
        return new ProcessMiner();
    }

    private static ProcessMiner bareMined() {
        return Logs.mined();
    }

    /** ORDER(0 CHOICE(BOTH(1 2) 4) 3), with a buffer. */
    private static ProcessMiner some() {
        ProcessMiner x = Logs.mined("0123*3", "0213*99", "043", "*0", "65*0");
        Logs.type(x, "043");
        return x;
    }

    private static ProcessMiner someChanged() {
        ProcessMiner x = some();
        x.setTimes(0, 3);
        return x;
    }

    /** As many traces, labels and times as can be. */
    private static ProcessMiner full() {
        ProcessMiner x = new ProcessMiner();
        for (int t = 0; t < 10; t++) {
            for (int i = 0; i < 12; i++) {
                x.event((t * 5 + i * (t + 1)) % 8);
            }
            x.endTrace(t < 8 ? 99 : 0);
        }
        Logs.type(x, TWELVE);
        return x;
    }

    private static ProcessMiner fullMined() {
        ProcessMiner x = full();
        x.mine();
        return x;
    }

    private static void newObject() {
        String sentence = "Creates a miner with an empty log and an empty buffer; nothing was mined.";
        test(1, sentence, () -> {
            ProcessMiner used = fullMined();
            ProcessMiner x = new ProcessMiner();
            due("traceCount", x.traceCount(), 0);
            due("labels, edges and variants", x.labels() + x.edges(true) + x.edges(false) + x.variants(), 0);
            for (int i = 0; i < 64; i++) {
                due("follows", x.follows(i / 8, i % 8), 0);
                due("relation", x.relation(i / 8, i % 8), 0);
                due("leads", x.leads(i / 8, i % 8), false);
            }
            due("digest", x.digest(), 167L * 31 * 31);
            due("the full one has its traces still", used.traceCount(), 10);
        });
        test(1, sentence, () -> {
            dueThrown("length(0)", bare(), BOUNDS, x -> x.length(0));
            dueThrown("labelAt(0, 0)", bare(), BOUNDS, x -> x.labelAt(0, 0));
            dueThrown("setTimes(0, 0)", bare(), BOUNDS, x -> x.setTimes(0, 0));
            dueThrown("dropTrace", bare(), STATE, ProcessMiner::dropTrace);
            due("the first event", bare().event(0), 1);
            ProcessMiner x = bare();
            due("the first trace", x.endTrace(1), 0);
            due("its length", x.length(0), 0);
        });
        test(1, sentence, () -> {
            dueThrown("kind(0)", bare(), STATE, x -> x.kind(0));
            dueThrown("labelsOf(0)", bare(), STATE, x -> x.labelsOf(0));
            dueThrown("parent(0)", bare(), STATE, x -> x.parent(0));
            dueThrown("children(0)", bare(), STATE, x -> x.children(0));
            dueThrown("child(0, 0)", bare(), STATE, x -> x.child(0, 0));
            dueThrown("shortest(0)", bare(), STATE, x -> x.shortest(0));
            dueThrown("height", bare(), STATE, ProcessMiner::height);
            dueThrown("accepts(0)", bare(), STATE, x -> x.accepts(0));
            dueThrown("acceptsBuffer", bare(), STATE, ProcessMiner::acceptsBuffer);
            dueThrown("fitness", bare(), STATE, ProcessMiner::fitness);
            dueThrown("words(0)", bare(), STATE, x -> x.words(0));
            due("mine", bare().mine(), 1);
        });
    }

    private static void event() {
        pass(2, "- `label`: the label");
        test(2, "Appends a label to the buffer.", () -> {
            for (int count = 0; count <= 12; count++) {
                ProcessMiner x = new ProcessMiner();
                Logs.type(x, TWELVE.substring(0, count));
                x.endTrace(1);
                due("labels that were appended", x.length(0), count);
                for (int i = 0; i < count; i++) {
                    due("label " + i, x.labelAt(0, i), TWELVE.charAt(i) - '0');
                }
            }
        });
        test(2, "Returns the number of labels in the buffer.", () -> {
            ProcessMiner x = new ProcessMiner();
            for (int round = 0; round < 2; round++) {
                for (int count = 1; count <= 12; count++) {
                    due("labels in the buffer", x.event(7), count);
                }
                x.endTrace(0);
            }
        });
        test(2, "Throws `IndexOutOfBoundsException` if label is not 0 to 7", () -> {
            for (int label : new int[] {0, 1, 6, 7}) {
                due("event(" + label + ")", bare().event(label), 1);
            }
            refused(CallsTest::bare, BOUNDS, ProcessMiner::event, NO_LABELS);
            refused(CallsTest::some, BOUNDS, ProcessMiner::event, NO_LABELS);
            refused(CallsTest::fullMined, BOUNDS, ProcessMiner::event, NO_LABELS);
        });
        test(2, "Throws `IllegalStateException` if there are 12 labels in the buffer", () -> {
            ProcessMiner x = new ProcessMiner();
            Logs.type(x, TWELVE.substring(1));
            due("event with 11", x.event(0), 12);
            dueThrown("event with 12", x, STATE, y -> y.event(0));
            due("endTrace", x.endTrace(1), 0);
            due("event with 0", x.event(0), 1);
            refused(CallsTest::full, STATE, ProcessMiner::event, 0, 7);
            refused(CallsTest::fullMined, STATE, ProcessMiner::event, 0, 7);
        });
    }

    private static void endTrace() {
        pass(3, "- `times`: its number of times");
        test(3, "Stores the buffer as a trace; it is empty then.", () -> {
            for (int count : new int[] {0, 1, 11, 12}) {
                ProcessMiner x = Logs.log("777777777777");
                Logs.type(x, TWELVE.substring(0, count));
                due("the trace", x.endTrace(1), 1);
                due("its length", x.length(1), count);
                due("its first label", Answers.tell(x, y -> y.labelAt(1, 0)), count == 0 ? BOUNDS : 0);
                due("the other one's last label", x.labelAt(0, 11), 7);
                due("the next trace", x.endTrace(1), 2);
                due("it is empty", x.length(2), 0);
                due("the buffer is empty", x.event(0), 1);
            }
        });
        test(3, "Returns the number of the trace.", () -> {
            ProcessMiner x = new ProcessMiner();
            for (int trace = 0; trace < 10; trace++) {
                due("number", x.endTrace(trace * 11), trace);
            }
            x.dropTrace();
            x.dropTrace();
            due("number after two were dropped", x.endTrace(0), 8);
        });
        test(3, "Throws `IllegalArgumentException` if times is not 0 to 99", () -> {
            for (int times : new int[] {0, 1, 98, 99}) {
                ProcessMiner x = bare();
                due("endTrace(" + times + ")", x.endTrace(times), 0);
                due("its times", x.setTimes(0, 5), times);
            }
            refused(CallsTest::bare, ARGUMENT, ProcessMiner::endTrace, NO_TIMES);
            refused(CallsTest::some, ARGUMENT, ProcessMiner::endTrace, NO_TIMES);
            refused(CallsTest::fullMined, ARGUMENT, ProcessMiner::endTrace, NO_TIMES);
        });
        test(3, "Throws `IllegalStateException` if there are 10 traces", () -> {
            ProcessMiner x = full();
            x.dropTrace();
            due("endTrace with 9", x.endTrace(99), 9);
            dueThrown("endTrace with 10", x, STATE, y -> y.endTrace(0));
            for (int t = 0; t < 10; t++) {
                x.setTimes(t, 0);
            }
            dueThrown("endTrace with 10, all with 0 times", x, STATE, y -> y.endTrace(0));
            refused(CallsTest::full, STATE, ProcessMiner::endTrace, 0, 99);
            refused(CallsTest::fullMined, STATE, ProcessMiner::endTrace, 0, 99);
        });
    }

    private static void setTimes() {
        pass(4, "- `trace`: the trace", "- `times`: the number");
        test(4, "Sets the number of times of a trace.", () -> {
            ProcessMiner x = full();
            for (int times : new int[] {0, 1, 98, 99}) {
                for (int trace : new int[] {0, 9}) {
                    x.setTimes(trace, times);
                    due("times of " + trace, x.setTimes(trace, times), times);
                }
                due("times of another one", x.setTimes(1, 99), 99);
            }
            ProcessMiner y = Logs.log("01", "01*2");
            y.setTimes(0, 99);
            due("follows", y.follows(0, 1), 101);
            y.setTimes(1, 0);
            due("follows with 0 times", y.follows(0, 1), 99);
        });
        test(4, "Returns the number before.", () -> {
            ProcessMiner x = Logs.log("*99", "*0");
            due("the most", x.setTimes(0, 0), 99);
            due("none", x.setTimes(0, 1), 0);
            due("one", x.setTimes(0, 1), 1);
            due("one again", x.setTimes(0, 99), 1);
            due("of the other one", x.setTimes(1, 50), 0);
        });
        test(4, "Throws `IndexOutOfBoundsException` if there is no such trace", () -> {
            due("the first of five", some().setTimes(0, 0), 3);
            due("the last of five", some().setTimes(4, 1), 0);
            due("the last of ten", full().setTimes(9, 1), 0);
            refused(CallsTest::some, BOUNDS, (x, t) -> x.setTimes(t, 1), 5, 9, 10);
            refused(CallsTest::some, BOUNDS, (x, t) -> x.setTimes(t, 99), FAR);
            refused(CallsTest::bare, BOUNDS, (x, t) -> x.setTimes(t, 1), 0, -1, MAX);
            refused(CallsTest::fullMined, BOUNDS, (x, t) -> x.setTimes(t, 1), 10, -1, MIN);
            refused(CallsTest::some, BOUNDS, (x, t) -> x.setTimes(t, 100), 5, -1, MIN, MAX);
            refused(CallsTest::some, BOUNDS, (x, t) -> x.setTimes(t, -1), 5, -1, MIN, MAX);
        });
        test(4, "Throws `IllegalArgumentException` if times is not 0 to 99", () -> {
            due("setTimes to 0", some().setTimes(0, 0), 3);
            due("setTimes to 99", some().setTimes(0, 99), 3);
            refused(CallsTest::some, ARGUMENT, (x, n) -> x.setTimes(0, n), NO_TIMES);
            refused(CallsTest::some, ARGUMENT, (x, n) -> x.setTimes(4, n), NO_TIMES);
            refused(CallsTest::fullMined, ARGUMENT, (x, n) -> x.setTimes(9, n), NO_TIMES);
        });
    }

    private static void dropTrace() {
        test(5, "Removes the trace that was stored last.", () -> {
            ProcessMiner x = Logs.log("01*3", "23*4");
            x.event(6);
            x.dropTrace();
            due("labels", x.labels(), 3);
            due("the first one's length", x.length(0), 2);
            dueThrown("length of the other one", x, BOUNDS, y -> y.length(1));
            dueThrown("times of the other one", x, BOUNDS, y -> y.setTimes(1, 1));
            due("the buffer is kept", x.event(6), 2);
            due("the next one", x.endTrace(5), 1);
            due("its label", x.labelAt(1, 1), 6);
            due("its times", x.setTimes(1, 5), 5);
        });
        test(5, "Returns how many are left.", () -> {
            ProcessMiner x = full();
            for (int left = 9; left >= 0; left--) {
                due("left", x.dropTrace(), left);
            }
        });
        test(5, "Throws `IllegalStateException` if there is none", () -> {
            due("dropTrace of one", Logs.log("").dropTrace(), 0);
            due("dropTrace of one with 0 times", Logs.log("*0").dropTrace(), 0);
            ProcessMiner x = Logs.log("01");
            x.dropTrace();
            dueThrown("dropTrace of none left", x, STATE, ProcessMiner::dropTrace);
            Answers.refused("dropTrace", CallsTest::bare, STATE, ProcessMiner::dropTrace);
            Answers.refused("dropTrace", CallsTest::bareMined, STATE, ProcessMiner::dropTrace);
            Supplier<ProcessMiner> typed = () -> {
                ProcessMiner y = new ProcessMiner();
                Logs.type(y, TWELVE);
                return y;
            };
            Answers.refused("dropTrace with a full buffer", typed, STATE, ProcessMiner::dropTrace);
        });
    }

    private static void traceCountAndLength() {
        test(6, "Returns the number of traces.", () -> {
            ProcessMiner x = new ProcessMiner();
            for (int count = 0; count < 10; count++) {
                due("traces", x.traceCount(), count);
                x.event(0);
                due("traces with a buffer", x.traceCount(), count);
                x.endTrace(0);
            }
            due("ten traces, all with 0 times", x.traceCount(), 10);
            x.dropTrace();
            due("nine traces", x.traceCount(), 9);
        });
        pass(7, "- `trace`: a trace");
        test(7, "Returns the number of its labels.", () -> {
            ProcessMiner x = Logs.log("", "7", "01234567012", TWELVE, TWELVE + "*0", "*0");
            int[] wants = {0, 1, 11, 12, 12, 0};
            for (int t = 0; t < wants.length; t++) {
                due("length(" + t + ")", x.length(t), wants[t]);
            }
            due("length of the tenth", full().length(9), 12);
        });
        test(7, "Throws `IndexOutOfBoundsException` if there is no such trace", () -> {
            due("the first of five", some().length(0), 4);
            due("the last of five", some().length(4), 2);
            refused(CallsTest::bare, BOUNDS, ProcessMiner::length, 0, -1, 1, MIN, MAX);
            refused(CallsTest::some, BOUNDS, ProcessMiner::length, 5, 9, 10);
            refused(CallsTest::some, BOUNDS, ProcessMiner::length, FAR);
            refused(CallsTest::fullMined, BOUNDS, ProcessMiner::length, 10, -1, MIN, MAX);
        });
    }

    private static void labelAt() {
        pass(8, "- `trace`: a trace");
        test(8, "- `place`: a place in it, from 0", () -> {
            ProcessMiner x = Logs.log("70");
            due("place 0", x.labelAt(0, 0), 7);
            due("place 1", x.labelAt(0, 1), 0);
        });
        test(8, "Returns the label there.", () -> {
            ProcessMiner x = full();
            for (int t = 0; t < 10; t++) {
                for (int i = 0; i < 12; i++) {
                    due("labelAt(" + t + ", " + i + ")", x.labelAt(t, i), (t * 5 + i * (t + 1)) % 8);
                }
            }
        });
        test(8, "Throws `IndexOutOfBoundsException` if there is no such trace or place", () -> {
            due("the last place of the last trace", full().labelAt(9, 11), (45 + 110) % 8);
            refused(CallsTest::bare, BOUNDS, (x, t) -> x.labelAt(t, 0), 0, -1, MIN, MAX);
            refused(CallsTest::some, BOUNDS, (x, t) -> x.labelAt(t, 0), FAR);
            refused(CallsTest::some, BOUNDS, (x, t) -> x.labelAt(t, 0), 5, 9, 10);
            refused(CallsTest::some, BOUNDS, (x, p) -> x.labelAt(0, p), FAR);
            refused(CallsTest::some, BOUNDS, (x, p) -> x.labelAt(0, p), 4, 11, 12);
            refused(CallsTest::some, BOUNDS, (x, p) -> x.labelAt(3, p), 0, -1, MAX);
            refused(CallsTest::some, BOUNDS, (x, p) -> x.labelAt(1, p), -12, -4, 16);
            refused(CallsTest::fullMined, BOUNDS, (x, p) -> x.labelAt(9, p), 12, -1, MIN, MAX);
            refused(CallsTest::fullMined, BOUNDS, (x, t) -> x.labelAt(t, 11), 10, -1, MIN, MAX);
            refused(CallsTest::some, BOUNDS, (x, n) -> x.labelAt(n, n), MIN, -1, 5, MAX);
        });
    }

    private static void labels() {
        test(9, "Returns the set of the labels of all traces in the log.", () -> {
            due("none", Logs.log("", "").labels(), 0);
            due("of all traces", Logs.log("0", "", "717", "3").labels(), 1 + 128 + 2 + 8);
            due("of a full trace", Logs.log(TWELVE).labels(), 255);
            due("of ten traces", Logs.log("0", "1", "2", "3", "4", "5", "6", "", "", "7").labels(), 255);
            due("of the last place", Logs.log("000000000007").labels(), 129);
            ProcessMiner x = Logs.log("0", "1*0");
            x.event(2);
            due("not of 0 times, not of the buffer", x.labels(), 1);
            x.endTrace(1);
            due("with the buffer stored", x.labels(), 5);
            x.dropTrace();
            due("with it dropped", x.labels(), 1);
        });
    }

    private static void dueOfPairs(OfInts call) {
        for (Supplier<ProcessMiner> made : List.<Supplier<ProcessMiner>>of(CallsTest::bare, CallsTest::some,
                CallsTest::fullMined)) {
            refused(made, BOUNDS, (x, a) -> call.of(x, a, 0), NO_LABELS);
            refused(made, BOUNDS, (x, b) -> call.of(x, 7, b), NO_LABELS);
            refused(made, BOUNDS, (x, c) -> call.of(x, c, c), NO_LABELS);
        }
        ProcessMiner x = full();
        for (int label : new int[] {0, 7}) {
            due("a call with " + label + ", 7", Answers.tell(x, y -> call.of(y, label, 7)) instanceof Class, false);
            due("a call with 0, " + label, Answers.tell(x, y -> call.of(y, 0, label)) instanceof Class, false);
        }
    }

    private static void follows() {
        pass(10, "- `a`: a label", "- `b`: a label");
        test(10, "Returns how often b follows a in the log.", () -> {
            ProcessMiner x = Logs.log("01*99", "7070*98", "11*1", "", "0", "01*0");
            due("follows(0, 1)", x.follows(0, 1), 99);
            due("follows(1, 0)", x.follows(1, 0), 0);
            due("follows(7, 0)", x.follows(7, 0), 196);
            due("follows(0, 7)", x.follows(0, 7), 98);
            due("follows(1, 1)", x.follows(1, 1), 1);
            due("follows(7, 7)", x.follows(7, 7), 0);
            x.event(1);
            x.event(1);
            due("the buffer is not in the log", x.follows(1, 1), 1);
        });
        test(10, "Throws `IndexOutOfBoundsException` if a or b is not 0 to 7", () -> dueOfPairs(ProcessMiner::follows));
    }

    private static void edges() {
        test(11, "- `isEnd`: whether labels that end are meant; otherwise those that begin", () -> {
            due("that end", Logs.log("07").edges(true), 128);
            due("that begin", Logs.log("07").edges(false), 1);
        });
        test(11, "Returns the set of these.", () -> {
            ProcessMiner x = Logs.log("07", "", "5", "10*0", "233333333334", "22");
            due("that begin", x.edges(false), 1 + 32 + 4);
            x = Logs.log("0", "1", "2", "3", "4", "5", "6", "7");
            due("all begin", x.edges(false), 255);
            due("all end", x.edges(true), 255);
            due("of the empty log", bare().edges(true) + bare().edges(false), 0);
            due("of an empty trace", Logs.log("").edges(true) + Logs.log("").edges(false), 0);
            ProcessMiner y = Logs.log("1");
            y.event(2);
            due("not of the buffer", y.edges(true) + y.edges(false), 4);
        });
    }

    private static void relation() {
        pass(12, "- `a`: a label", "- `b`: a label");
        String sentence = "Returns 0 if none of them follows the other one; 1 if b follows a, and a does not follow b; 2 "
                + "the other way round; 3 if each of them follows the other one (or it follows itself, if they are the "
                + "same).";
        test(12, sentence, () -> {
            ProcessMiner x = Logs.log("07", "171", "55", "2", "02", "36*0", "63*0");
            due("none", x.relation(0, 1), 0);
            due("none, by way of another one alone", x.relation(0, 5), 0);
            due("b follows a", x.relation(0, 7), 1);
            due("a follows b", x.relation(7, 0), 2);
            due("each", x.relation(1, 7), 3);
            due("each, asked the other way", x.relation(7, 1), 3);
            due("itself", x.relation(5, 5), 3);
            due("not itself", x.relation(0, 0), 0);
            due("not itself, back by way of another one", x.relation(7, 7), 0);
            due("with 0 times", x.relation(3, 6), 0);
            x.setTimes(5, 1);
            due("one way with 1 time", x.relation(3, 6), 1);
            x.setTimes(6, 1);
            due("both ways", x.relation(6, 3), 3);
            due("a label that is in no trace", x.relation(4, 4) + x.relation(4, 0) + x.relation(0, 4), 0);
        });
        test(12, "Throws `IndexOutOfBoundsException` if a or b is not 0 to 7", () ->
                dueOfPairs(ProcessMiner::relation));
    }

    private static void leads() {
        pass(13, "- `a`: a label", "- `b`: a label");
        test(13, "Returns whether a leads to b in the log.", () -> {
            ProcessMiner x = Logs.log("01", "12", "23", "34", "45", "56", "67", "70*0");
            for (int i = 0; i < 64; i++) {
                due("leads(" + i / 8 + ", " + i % 8 + ")", x.leads(i / 8, i % 8), i / 8 < i % 8);
            }
            x.setTimes(7, 1);
            for (int i = 0; i < 64; i++) {
                due("in a ring, leads(" + i / 8 + ", " + i % 8 + ")", x.leads(i / 8, i % 8), true);
            }
            x.dropTrace();
            due("when the ring is open again", x.leads(7, 0), false);
        });
        test(13, "Throws `IndexOutOfBoundsException` if a or b is not 0 to 7", () -> dueOfPairs(ProcessMiner::leads));
    }

    private static void variants() {
        test(14, "Returns how many different sequences the traces of the log are.", () -> {
            due("none", bare().variants(), 0);
            due("one empty", Logs.log("").variants(), 1);
            due("two empty", Logs.log("", "*99").variants(), 1);
            due("one with 0 times", Logs.log("0*0").variants(), 0);
            due("twins, the first with 0 times", Logs.log("0*0", "0").variants(), 1);
            due("twins, the second with 0 times", Logs.log("0", "0*0").variants(), 1);
            due("a sequence and its start", Logs.log("0", "01", "").variants(), 3);
            due("other times make no difference", Logs.log("01*1", "01*2").variants(), 1);
            due("the last label makes one", Logs.log("000000000000", "000000000007").variants(), 2);
            due("the first label makes one", Logs.log("000000000000", "700000000000").variants(), 2);
            due("the order makes one", Logs.log("01", "10").variants(), 2);
            due("ten", Logs.log("0", "1", "2", "3", "4", "5", "6", "7", "", "00").variants(), 10);
            due("ten that are the same", Logs.log(TWELVE, TWELVE, TWELVE, TWELVE, TWELVE, TWELVE, TWELVE, TWELVE,
                    TWELVE, TWELVE).variants(), 1);
            ProcessMiner x = Logs.log("0");
            x.event(1);
            due("the buffer is none", x.variants(), 1);
        });
    }

    private static void mine() {
        test(15, "Mines the log, if it is not done yet.", () -> {
            ProcessMiner x = Logs.log("01");
            x.mine();
            List<String> answers = Answers.all(CallsTest::some);
            due("the tree", Logs.tree(x, 0), "ORDER(0 1)");
            Answers.dueSame("mined twice", Answers.all(() -> {
                ProcessMiner twice = some();
                twice.mine();
                return twice;
            }), answers);
            x.event(2);
            x.mine();
            due("the tree with a buffer", Logs.tree(x, 0), "ORDER(0 1)");
            x.endTrace(1);
            x.mine();
            due("the tree with a trace more", Logs.tree(x, 0), "CHOICE(ORDER(0 1) 2)");
            x.setTimes(0, 0);
            x.mine();
            due("the tree with one less", Logs.tree(x, 0), "2");
            x.dropTrace();
            x.mine();
            due("the tree of none", Logs.tree(x, 0), "-");
        });
        test(15, "Returns the number of nodes of the tree.", () -> {
            due("NOTHING", bare().mine(), 1);
            due("LABEL", Logs.log("7").mine(), 1);
            due("ANY", Logs.log("01", "101").mine(), 1);
            due("AGAIN of LABEL and NOTHING", Logs.log("77").mine(), 3);
            due("CHOICE of eight", Logs.log("0", "1", "2", "3", "4", "5", "6", "7").mine(), 9);
            ProcessMiner x = some();
            due("mined already", x.mine(), 8);
            due("mined once more", x.mine(), 8);
            // CHOICE(- ORDER(..)) of eight labels, each CHOICE(- AGAIN(LABEL NOTHING)).
            due("many nodes", Logs.log("", "001122334455", "66", "77", "5566", "6677").mine(), 2 + 1 + 8 * 5);
        });
    }

    private static void dueOfNodes(OfInt call) {
        due("node 0 of one", Answers.tell(bareMined(), x -> call.of(x, 0)) instanceof Integer, true);
        due("the last of eight", Answers.tell(some(), x -> call.of(x, 7)) instanceof Integer, true);
        refused(CallsTest::bareMined, BOUNDS, call, 1, -1, MIN, MAX);
        refused(CallsTest::some, BOUNDS, call, FAR);
        refused(CallsTest::some, BOUNDS, call, 8, 9, 63, 64);
    }

    private static void dueOfNoTree(OfInt call) {
        due("with a tree", Answers.tell(some(), x -> call.of(x, 0)) instanceof Integer, true);
        refused(CallsTest::bare, STATE, call, 0, 1, -1, MIN, MAX);
        refused(CallsTest::someChanged, STATE, call, 0, 7, 8, -1, MIN, MAX);
        refused(CallsTest::full, STATE, call, 0, 99);
    }

    private static void dueRow(String what, ProcessMiner x, OfInt call, int... wants) {
        for (int node = 0; node < wants.length; node++) {
            due(what + "(" + node + ")", call.of(x, node), wants[node]);
        }
    }

    private static void kind() {
        pass(16, "- `node`: a node");
        test(16, "Returns its kind.", () -> {
            dueRow("kind", some(), ProcessMiner::kind, 3, 1, 2, 4, 1, 1, 1, 1);
            dueRow("kind", bareMined(), ProcessMiner::kind, 0);
            dueRow("kind", Logs.mined("", "00"), ProcessMiner::kind, 2, 0, 5, 1, 0);
            dueRow("kind", Logs.mined("101", "01"), ProcessMiner::kind, 6);
        });
        test(16, NO_TREE, () -> dueOfNoTree(ProcessMiner::kind));
        test(16, NO_NODE, () -> dueOfNodes(ProcessMiner::kind));
    }

    private static void labelsOf() {
        pass(17, "- `node`: a node");
        test(17, "Returns the set of the labels of it and of all nodes below it.", () -> {
            dueRow("labelsOf", some(), ProcessMiner::labelsOf, 31, 1, 22, 6, 2, 4, 16, 8);
            dueRow("labelsOf", bareMined(), ProcessMiner::labelsOf, 0);
            dueRow("labelsOf", Logs.mined("", "77"), ProcessMiner::labelsOf, 128, 0, 128, 128, 0);
            dueRow("labelsOf", Logs.mined("7", "0"), ProcessMiner::labelsOf, 129, 1, 128);
            due("ANY of eight", Logs.mined("012345670", "10").labelsOf(0), 255);
        });
        test(17, NO_TREE, () -> dueOfNoTree(ProcessMiner::labelsOf));
        test(17, NO_NODE, () -> dueOfNodes(ProcessMiner::labelsOf));
    }

    private static void parent() {
        pass(18, "- `node`: a node");
        test(18, "Returns its parent; -1 for the node 0.", () -> {
            dueRow("parent", some(), ProcessMiner::parent, -1, 0, 0, 2, 3, 3, 2, 0);
            dueRow("parent", bareMined(), ProcessMiner::parent, -1);
            dueRow("parent", Logs.mined("", "77"), ProcessMiner::parent, -1, 0, 0, 2, 2);
        });
        test(18, NO_TREE, () -> dueOfNoTree(ProcessMiner::parent));
        test(18, NO_NODE, () -> dueOfNodes(ProcessMiner::parent));
    }

    private static void children() {
        pass(19, "- `node`: a node");
        test(19, "Returns the number of its children.", () -> {
            dueRow("children", some(), ProcessMiner::children, 3, 0, 2, 2, 0, 0, 0, 0);
            dueRow("children", bareMined(), ProcessMiner::children, 0);
            dueRow("children", Logs.mined("", "77"), ProcessMiner::children, 2, 0, 2, 0, 0);
            due("of ANY", Logs.mined("01", "101").children(0), 0);
            due("the most", Logs.mined("01234567").children(0), 8);
        });
        test(19, NO_TREE, () -> dueOfNoTree(ProcessMiner::children));
        test(19, NO_NODE, () -> dueOfNodes(ProcessMiner::children));
    }

    private static void child() {
        pass(20, "- `node`: a node");
        test(20, "- `index`: the index of a child, from 0", () -> {
            due("the first one", some().child(0, 0), 1);
            due("the second one", some().child(0, 1), 2);
        });
        test(20, "Returns this child.", () -> {
            ProcessMiner x = some();
            dueRow("child of 0", x, (y, i) -> y.child(0, i), 1, 2, 7);
            dueRow("child of 2", x, (y, i) -> y.child(2, i), 3, 6);
            dueRow("child of 3", x, (y, i) -> y.child(3, i), 4, 5);
            dueRow("child of eight", Logs.mined("76543210"), (y, i) -> y.child(0, i), 1, 2, 3, 4, 5, 6, 7, 8);
        });
        test(20, NO_TREE, () -> {
            dueOfNoTree((x, node) -> x.child(node, 0));
            dueOfNoTree((x, node) -> x.child(node, node == 0 ? 1 : MAX));
            refused(CallsTest::someChanged, STATE, (x, i) -> x.child(0, i), 3, -1, MIN, MAX);
        });
        test(20, "Throws `IndexOutOfBoundsException` if there is no such node or child", () -> {
            refused(CallsTest::some, BOUNDS, (x, node) -> x.child(node, 0), 8, 64);
            refused(CallsTest::some, BOUNDS, (x, node) -> x.child(node, 0), FAR);
            refused(CallsTest::some, BOUNDS, (x, node) -> x.child(node, 0), 1, 4, 7);
            refused(CallsTest::some, BOUNDS, (x, i) -> x.child(0, i), 3, 7, 8);
            refused(CallsTest::some, BOUNDS, (x, i) -> x.child(0, i), FAR);
            refused(CallsTest::some, BOUNDS, (x, i) -> x.child(2, i), 2, -1, -8);
            refused(CallsTest::some, BOUNDS, (x, i) -> x.child(i, i), MIN, -1, 8, MAX);
            refused(() -> Logs.mined("01234567"), BOUNDS, (x, i) -> x.child(0, i), 8, -1, MIN, MAX);
            refused(CallsTest::bareMined, BOUNDS, (x, i) -> x.child(0, i), 0, -1, MAX);
        });
    }

    private static void shortest() {
        pass(21, "- `node`: a node");
        test(21, "Returns the least number of labels of its words.", () -> {
            dueRow("shortest", some(), ProcessMiner::shortest, 3, 1, 1, 2, 1, 1, 1, 1);
            dueRow("shortest", bareMined(), ProcessMiner::shortest, 0);
            dueRow("shortest", Logs.mined("", "77"), ProcessMiner::shortest, 0, 0, 1, 1, 0);
            dueRow("shortest", Logs.mined("01201"), ProcessMiner::shortest, 2, 2, 1, 1, 1);
            dueRow("shortest", Logs.mined("2", "01"), ProcessMiner::shortest, 1, 2, 1, 1, 1);
            dueRow("shortest", Logs.mined("10", "101"), ProcessMiner::shortest, 0);
            due("the most", Logs.mined("76543210").shortest(0), 8);
            due("AGAIN with an empty first word", Logs.mined("021", "120", "01", "0").shortest(0), 0);
        });
        test(21, NO_TREE, () -> dueOfNoTree(ProcessMiner::shortest));
        test(21, NO_NODE, () -> dueOfNodes(ProcessMiner::shortest));
    }

    private static void height() {
        test(22, "Returns the greatest number of nodes on a way from the node 0 down, both ends included.", () -> {
            due("one node", bareMined().height(), 1);
            due("two levels", Logs.mined("77").height(), 2);
            due("the longest way is not the last", Logs.mined("010", "2").height(), 3);
            due("the longest way is the last", Logs.mined("0", "121").height(), 3);
            due("four levels", some().height(), 4);
            due("CHOICE, ORDER, CHOICE, AGAIN, LABEL", Logs.mined("", "001", "1").height(), 5);
        });
        test(22, NO_TREE, () -> dueNoTree(ProcessMiner::height));
    }

    private static void dueNoTree(Answers.Ask call) {
        due("with a tree", Answers.tell(some(), call) instanceof Class, false);
        due("with a tree of none", Answers.tell(bareMined(), call) instanceof Class, false);
        Answers.refused("a call with no tree", CallsTest::bare, STATE, call);
        Answers.refused("a call with the tree gone", CallsTest::someChanged, STATE, call);
        Answers.refused("a call with a full log and no tree", CallsTest::full, STATE, call);
    }

    private static void accepts() {
        test(23, "- `trace`: a trace, with 0 times or more", () -> {
            ProcessMiner x = Logs.mined("01*99", "01*0", "10*0", "01*1");
            due("99 times", x.accepts(0), true);
            due("0 times", x.accepts(1), true);
            due("0 times, no word", x.accepts(2), false);
            due("1 time", x.accepts(3), true);
        });
        test(23, "Returns whether it is a word of the tree.", () -> {
            ProcessMiner x = Logs.mined("0123", "0213", "043", "03*0", "*0", "0125*0", "0413*0", TWELVE + "*0", "0",
                    "");
            boolean[] wants = {true, true, true, true, true, false, false, false, true, true};
            for (int t = 0; t < wants.length; t++) {
                due("accepts(" + t + ")", x.accepts(t), wants[t]);
            }
            ProcessMiner strict = Logs.mined("01", "*0", "0*0", "1*0", "010*0", "011*0", "701*0");
            due("the word itself", strict.accepts(0), true);
            for (int t = 1; t < 7; t++) {
                due("no word: " + t, strict.accepts(t), false);
            }
            due("12 labels", Logs.mined("000000000000").accepts(0), true);
            due("12 labels, the last is none of the tree's", Logs.mined("00", "000000000007*0").accepts(1), false);
            due("the empty trace in NOTHING", Logs.mined("*0").accepts(0), true);
            due("one label in NOTHING", Logs.mined("0*0").accepts(0), false);
        });
        test(23, NO_TREE, () -> {
            due("with a tree", some().accepts(0), true);
            refused(CallsTest::bare, STATE, ProcessMiner::accepts, 0, -1, MIN, MAX);
            refused(CallsTest::someChanged, STATE, ProcessMiner::accepts, 0, 4, 5, -1, MIN, MAX);
            refused(CallsTest::full, STATE, ProcessMiner::accepts, 9, 10);
        });
        test(23, "Throws `IndexOutOfBoundsException` if there is no such trace", () -> {
            due("the last of five", some().accepts(4), false);
            due("the last of ten", Answers.tell(fullMined(), x -> x.accepts(9)) instanceof Boolean, true);
            refused(CallsTest::bareMined, BOUNDS, ProcessMiner::accepts, 0, -1, MIN, MAX);
            refused(CallsTest::some, BOUNDS, ProcessMiner::accepts, 5, 9, 10);
            refused(CallsTest::some, BOUNDS, ProcessMiner::accepts, FAR);
            refused(CallsTest::fullMined, BOUNDS, ProcessMiner::accepts, 10, -1, MIN, MAX);
        });
    }

    private static void acceptsBuffer() {
        test(24, "Returns whether the sequence in the buffer is a word of the tree.", () -> {
            ProcessMiner x = Logs.mined("00");
            due("the empty buffer", x.acceptsBuffer(), false);
            for (int count = 1; count <= 12; count++) {
                x.event(0);
                due(count + " labels", x.acceptsBuffer(), true);
            }
            ProcessMiner y = Logs.mined("0", "000");
            Logs.type(y, "00000000000");
            y.event(7);
            due("12 labels, the last is none of the tree's", y.acceptsBuffer(), false);
            due("the empty buffer in NOTHING", bareMined().acceptsBuffer(), true);
            ProcessMiner z = bareMined();
            z.event(0);
            due("one label in NOTHING", z.acceptsBuffer(), false);
            ProcessMiner order = Logs.mined("01");
            boolean[] wants = {false, true, false};
            for (int i = 0; i < wants.length; i++) {
                order.event(i);
                due("the buffer with " + (i + 1), order.acceptsBuffer(), wants[i]);
            }
        });
        test(24, NO_TREE, () -> dueNoTree(ProcessMiner::acceptsBuffer));
    }

    private static void fitness() {
        test(25, "Returns the number of traces, with 0 times or more, that are words of the tree, divided by the number "
                + "of all traces; 1 if there are none.", () -> {
            due("no trace", bareMined().fitness(), 1.0);
            due("no trace left", Logs.mined("0").dropTrace() + bareMined().fitness(), 1.0);
            due("no word", Logs.mined("0*0").fitness(), 0.0);
            due("one word with 0 times", Logs.mined("*0").fitness(), 1.0);
            due("one word", Logs.mined("0*99").fitness(), 1.0);
            due("one of two", Logs.mined("0*99", "1*0").fitness(), 0.5);
            due("one of three", Logs.mined("0*99", "1*0", "*0").fitness(), 1.0 / 3.0);
            due("two of three", Logs.mined("0*99", "1*0", "0*0").fitness(), 2.0 / 3.0);
            String[] ten = {"01", "0*0", "0*0", "0*0", "0*0", "0*0", "0*0", "0*0", "0*0", "0*0"};
            for (int words = 1; words <= 10; words++) {
                ten[words - 1] = "01";
                due(words + " of ten", Logs.mined(ten).fitness(), words / 10.0);
            }
        });
        test(25, NO_TREE, () -> dueNoTree(ProcessMiner::fitness));
    }

    private static void words() {
        test(26, "- `length`: a number of labels", () -> {
            ProcessMiner x = Logs.mined("", "0", "7");
            due("no label", x.words(0), 1);
            due("one label", x.words(1), 2);
        });
        test(26, "Returns how many sequences with so many labels are words of the tree.", () -> {
            dueRow("NOTHING", bareMined(), ProcessMiner::words, 1, 0, 0, 0);
            dueRow("LABEL", Logs.mined("7"), ProcessMiner::words, 0, 1, 0, 0);
            dueRow("AGAIN", Logs.mined("00"), ProcessMiner::words, 0, 1, 1, 1);
            dueRow("CHOICE(- AGAIN)", Logs.mined("00", ""), ProcessMiner::words, 1, 1, 1, 1);
            dueRow("ANY of eight", Logs.mined("012345670", "10"), ProcessMiner::words, 1, 8, 64, 512);
            dueRow("ANY of two", Logs.mined("01", "101"), ProcessMiner::words, 1, 2, 4, 8);
            dueRow("CHOICE of eight", Logs.mined("0", "1", "2", "3", "4", "5", "6", "7"), ProcessMiner::words, 0, 8, 0,
                    0);
            dueRow("BOTH of three", Logs.mined("012", "021", "102", "120", "201", "210"), ProcessMiner::words, 0, 0, 0,
                    6);
            dueRow("ORDER of four", Logs.mined("0123"), ProcessMiner::words, 0, 0, 0, 0);
            dueRow("ORDER of three", some(), ProcessMiner::words, 0, 0, 0, 1);
            ProcessMiner x = some();
            x.words(3);
            due("the buffer is kept", x.acceptsBuffer(), true);
        });
        test(26, NO_TREE, () -> {
            dueOfNoTree(ProcessMiner::words);
            refused(CallsTest::someChanged, STATE, ProcessMiner::words, 3, 4);
        });
        test(26, "Throws `IllegalArgumentException` if length is not 0 to 3", () -> {
            due("words(0)", some().words(0), 0);
            due("words(3)", some().words(3), 1);
            refused(CallsTest::some, ARGUMENT, ProcessMiner::words, MIN, -1, 4, 12, 13, MAX);
            refused(CallsTest::bareMined, ARGUMENT, ProcessMiner::words, MIN, -1, 4, MAX);
            refused(CallsTest::fullMined, ARGUMENT, ProcessMiner::words, MIN, -1, 4, MAX);
        });
    }

    /** The numbers of the checksum, asked of an object call by call; its buffer is given. */
    private static List<Integer> numbers(ProcessMiner x, String buffer) {
        List<Integer> row = new ArrayList<>();
        row.add(buffer.length());
        buffer.chars().forEach(c -> row.add(c - '0'));
        boolean isMined = Answers.tell(x, y -> y.kind(0)) instanceof Integer;
        row.add(x.traceCount());
        for (int t = 0; t < x.traceCount(); t++) {
            row.add(0);
            row.add(x.length(t));
            for (int i = 0; i < x.length(t); i++) {
                row.add(x.labelAt(t, i));
            }
        }
        if (isMined) {
            int size = x.mine();
            row.add(size);
            for (int node = 0; node < size; node++) {
                row.addAll(List.of(x.kind(node), x.labelsOf(node), x.children(node)));
            }
        }
        return row;
    }

    private static BigInteger sumOf(List<Integer> row) {
        BigInteger d = BigInteger.valueOf(167);
        for (int x : row) {
            d = d.multiply(BigInteger.valueOf(31)).add(BigInteger.valueOf(x));
        }
        return d;
    }

    private static void digest() {
        test(27, "Computes a checksum. A number d starts with 167; for each of the following numbers x, d becomes d * 31 "
                + "+ x, which wraps around as a 64-bit integer:", () -> {
            due("two numbers", bare().digest(), 160487L);
            BigInteger most = BigInteger.valueOf(Long.MAX_VALUE);
            for (int count = 0; count <= 12; count++) {
                ProcessMiner x = new ProcessMiner();
                Logs.type(x, "777777777777".substring(0, count));
                BigInteger sum = sumOf(numbers(x, "777777777777".substring(0, count)));
                // With 9 labels, 11 numbers are summed: the last sum that a long holds.
                due("whether it wraps around with " + count, sum.compareTo(most) > 0, count > 9);
                due("digest with " + count, x.digest(), sum.longValue());
                due("as the sum itself", BigInteger.valueOf(x.digest()).equals(sum), count <= 9);
            }
        });
        test(27, "the number of labels in the buffer, and these; the number of traces, and for each of them its times, "
                + "its number of labels, and these; if something is mined, the number of nodes, and for each of them its "
                + "kind, the set of the labels of it and below it, and the number of its children.", () -> dueNumbers());
        test(27, "Returns d.", () -> {
            ProcessMiner x = full();
            long d = x.digest();
            due("the same again", x.digest(), d);
            due("as another one that was made alike", full().digest(), d);
        });
    }

    private static void dueNumbers() {
        ProcessMiner x = Logs.log("70*99", "*0");
        x.event(5);
        due("a buffer and two traces", x.digest(), sumOf(List.of(1, 5, 2, 99, 2, 7, 0, 0, 0)).longValue());
        x.mine();
        due("and a tree", x.digest(), sumOf(List.of(1, 5, 2, 99, 2, 7, 0, 0, 0, 3, 3, 129, 2, 1, 128, 0, 1, 1, 0))
                .longValue());
        x.setTimes(1, 0);
        due("the tree gone", x.digest(), sumOf(List.of(1, 5, 2, 99, 2, 7, 0, 0, 0)).longValue());
        x.dropTrace();
        x.dropTrace();
        due("the buffer alone", x.digest(), sumOf(List.of(1, 5, 0)).longValue());
        x.mine();
        due("the buffer and NOTHING", x.digest(), sumOf(List.of(1, 5, 0, 1, 0, 0, 0)).longValue());
        due("the empty one with NOTHING", bareMined().digest(), sumOf(List.of(0, 0, 1, 0, 0, 0)).longValue());
        dueFullSum(full());
        dueFullSum(fullMined());
    }

    // The times are told by setTimes alone, which ends the tree: they stand in full() and are put in by hand.
    private static void dueFullSum(ProcessMiner x) {
        List<Integer> row = numbers(x, TWELVE);
        for (int t = 0; t < 10; t++) {
            row.set(14 + t * 14, t < 8 ? 99 : 0);
        }
        due("digest of a full one", x.digest(), sumOf(row).longValue());
    }
}
