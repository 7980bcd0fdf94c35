/** Each promise of the document in its turn: ordinary inputs, the edges that it names, and wrong inputs. */
final class PromisesTest {
    private static final Class<IndexOutOfBoundsException> BOUNDS = IndexOutOfBoundsException.class;
    private static final Class<IllegalArgumentException> ARGUMENT = IllegalArgumentException.class;
    private static final Class<IllegalStateException> STATE = IllegalStateException.class;
    private static final int[] FAR = {Integer.MIN_VALUE, -1, Integer.MAX_VALUE};
    private static final String FULL = "012345670123";

    private PromisesTest() {
    }

    public static void main(String[] args) {
        promise1NewObject();
        promise2Event();
        promise3EndTrace();
        promise4SetTimes();
        promise5DropTrace();
        promise6TraceCount();
        promise7Length();
        promise8LabelAt();
        promise9Labels();
        promise10Follows();
        promise11Edges();
        promise12Relation();
        promise13Leads();
        promise14Variants();
        promise15Mine();
        promise16Kind();
        promise17LabelsOf();
        promise18Parent();
        promise19Children();
        promise20Child();
        promise21Shortest();
        promise22Height();
        promise23Accepts();
        promise24AcceptsBuffer();
        promise25Fitness();
        promise26Words();
        promise27Digest();
        Check.finish("PromisesTest");
    }

    private static void due(String what, Object got, Object want) {
        Check.due(what, got, want);
    }

    private static ProcessMiner tenTraces() {
        return Logs.log("0", "1", "2", "3", "4", "5", "6", "7", "01", "10");
    }

    // ORDER(0 CHOICE(BOTH(1 2) 4) 3): nodes 0 ORDER, 1 LABEL 0, 2 CHOICE, 3 BOTH, 4 LABEL 1, 5 LABEL 2,
    // 6 LABEL 4, 7 LABEL 3.
    private static ProcessMiner eightNodes() {
        return Logs.mined("0123*3", "0213*2", "043");
    }

    private static void promise1NewObject() {
        ProcessMiner x = new ProcessMiner();
        due("new: traceCount", x.traceCount(), 0);
        due("new: labels", x.labels(), 0);
        due("new: edges", x.edges(true) + x.edges(false), 0);
        due("new: variants", x.variants(), 0);
        due("new: follows", x.follows(0, 7), 0);
        due("new: digest", x.digest(), (167L * 31 + 0) * 31 + 0);
        Check.thrown(x, "new: fitness", STATE, x::fitness);
        due("new: event", x.event(4), 1);
        ProcessMiner other = new ProcessMiner();
        due("new: another one stands for itself", other.event(0), 1);
    }

    private static void promise2Event() {
        ProcessMiner x = new ProcessMiner();
        for (int label : new int[] {-1, 8, Integer.MIN_VALUE, Integer.MAX_VALUE}) {
            Check.thrown(x, "event(" + label + ")", BOUNDS, () -> x.event(label));
        }
        for (int i = 0; i < 12; i++) {
            due("event " + i, x.event(i % 8), i + 1);
        }
        Check.thrown(x, "event with 12 in the buffer", STATE, () -> x.event(0));
        Check.thrown(x, "event(8) with 12 in the buffer", BOUNDS, () -> x.event(8));
        Check.thrown(x, "event(-1) with 12 in the buffer", BOUNDS, () -> x.event(-1));
        x.endTrace(1);
        for (int i = 0; i < 12; i++) {
            due("the trace has the labels in their order", x.labelAt(0, i), i % 8);
        }
        due("event after endTrace", x.event(7), 1);
        ProcessMiner tree = eightNodes();
        tree.event(5);
        due("event keeps the tree", tree.kind(0), 3);
    }

    private static void promise3EndTrace() {
        ProcessMiner x = new ProcessMiner();
        x.event(6);
        Check.thrown(x, "endTrace(-1)", ARGUMENT, () -> x.endTrace(-1));
        Check.thrown(x, "endTrace(100)", ARGUMENT, () -> x.endTrace(100));
        Check.thrown(x, "endTrace(MIN)", ARGUMENT, () -> x.endTrace(Integer.MIN_VALUE));
        due("endTrace(99)", x.endTrace(99), 0);
        due("endTrace(0)", x.endTrace(0), 1);
        due("the second one was empty", x.length(1), 0);
        due("its times", x.setTimes(1, 1), 0);
        due("the first one's times", x.setTimes(0, 1), 99);
        due("the first one's label", x.labelAt(0, 0), 6);
        ProcessMiner full = tenTraces();
        full.mine();
        full.event(3);
        Check.thrown(full, "endTrace with 10", STATE, () -> full.endTrace(1));
        Check.thrown(full, "endTrace(100) with 10", ARGUMENT, () -> full.endTrace(100));
        Check.thrown(full, "endTrace(-1) with 10", ARGUMENT, () -> full.endTrace(-1));
        due("the buffer is kept", full.event(3), 2);
        due("the tree is kept", full.kind(0), 2);
        ProcessMiner tree = eightNodes();
        due("endTrace of nothing, no times", tree.endTrace(0), 3);
        Check.thrown(tree, "kind after endTrace", STATE, () -> tree.kind(0));
    }

    private static void promise4SetTimes() {
        ProcessMiner x = eightNodes();
        for (int trace : new int[] {-1, 3, Integer.MIN_VALUE, Integer.MAX_VALUE}) {
            Check.thrown(x, "setTimes(" + trace + ", 1)", BOUNDS, () -> x.setTimes(trace, 1));
            Check.thrown(x, "setTimes(" + trace + ", 100)", BOUNDS, () -> x.setTimes(trace, 100));
        }
        Check.thrown(x, "setTimes(0, -1)", ARGUMENT, () -> x.setTimes(0, -1));
        Check.thrown(x, "setTimes(2, 100)", ARGUMENT, () -> x.setTimes(2, 100));
        due("the tree is kept", x.kind(0), 3);
        due("setTimes(1, 0)", x.setTimes(1, 0), 2);
        due("setTimes(1, 99)", x.setTimes(1, 99), 0);
        due("setTimes(1, 5)", x.setTimes(1, 5), 99);
        due("setTimes(0, 3)", x.setTimes(0, 3), 3);
        due("follows afterwards", x.follows(0, 2), 5);
        ProcessMiner same = eightNodes();
        same.setTimes(0, 3);
        Check.thrown(same, "kind after setTimes that changes nothing", STATE, () -> same.kind(0));
    }

    private static void promise5DropTrace() {
        ProcessMiner x = eightNodes();
        due("dropTrace", x.dropTrace(), 2);
        Check.thrown(x, "kind after dropTrace", STATE, () -> x.kind(0));
        due("labels afterwards", x.labels(), 15);
        due("the next one takes its number", Logs.store(x, "77*4"), 2);
        due("its labels", x.labelAt(2, 1), 7);
        x.dropTrace();
        x.dropTrace();
        due("the last one", x.dropTrace(), 0);
        x.mine();
        Check.thrown(x, "dropTrace of none", STATE, x::dropTrace);
        due("the tree is kept", x.kind(0), 0);
        x.event(2);
        Logs.store(x, "");
        x.event(5);
        x.dropTrace();
        due("the buffer is kept", x.event(5), 2);
    }

    private static void promise6TraceCount() {
        ProcessMiner x = Logs.log("01", "", "2*0");
        due("traceCount with 0 times too", x.traceCount(), 3);
        x.event(0);
        due("traceCount with a buffer", x.traceCount(), 3);
        due("traceCount of ten", tenTraces().traceCount(), 10);
        x.dropTrace();
        due("traceCount after dropTrace", x.traceCount(), 2);
    }

    private static void promise7Length() {
        ProcessMiner x = Logs.log("01", "", "234*0", FULL);
        due("length 0", x.length(0), 2);
        due("length 1", x.length(1), 0);
        due("length 2", x.length(2), 3);
        due("length 3", x.length(3), 12);
        Check.thrown(x, "length(4)", BOUNDS, () -> x.length(4));
        for (int trace : FAR) {
            Check.thrown(x, "length(" + trace + ")", BOUNDS, () -> x.length(trace));
        }
        x.dropTrace();
        Check.thrown(x, "length(3) when dropped", BOUNDS, () -> x.length(3));
        Check.thrown(new ProcessMiner(), "length(0) of none", BOUNDS, () -> new ProcessMiner().length(0));
    }

    private static void promise8LabelAt() {
        ProcessMiner x = Logs.log("50", "", "7*0", FULL);
        due("labelAt(0, 0)", x.labelAt(0, 0), 5);
        due("labelAt(0, 1)", x.labelAt(0, 1), 0);
        due("labelAt(2, 0)", x.labelAt(2, 0), 7);
        due("labelAt(3, 11)", x.labelAt(3, 11), 3);
        Check.thrown(x, "labelAt(0, 2)", BOUNDS, () -> x.labelAt(0, 2));
        Check.thrown(x, "labelAt(1, 0)", BOUNDS, () -> x.labelAt(1, 0));
        Check.thrown(x, "labelAt(3, 12)", BOUNDS, () -> x.labelAt(3, 12));
        Check.thrown(x, "labelAt(4, 0)", BOUNDS, () -> x.labelAt(4, 0));
        for (int far : FAR) {
            Check.thrown(x, "labelAt(0, " + far + ")", BOUNDS, () -> x.labelAt(0, far));
            Check.thrown(x, "labelAt(" + far + ", 0)", BOUNDS, () -> x.labelAt(far, 0));
        }
    }

    private static void promise9Labels() {
        ProcessMiner x = Logs.log("07", "", "33", "5*0");
        due("labels", x.labels(), 1 + 128 + 8);
        x.event(6);
        due("labels with a buffer", x.labels(), 137);
        x.setTimes(3, 1);
        due("labels with one more", x.labels(), 137 + 32);
        x.setTimes(0, 0);
        due("labels with one less", x.labels(), 40);
        due("labels of all", Logs.log(FULL).labels(), 255);
    }

    private static void promise10Follows() {
        ProcessMiner x = Logs.log("0101*3", "110*2", "01*0", "7077*99");
        due("follows(0, 1)", x.follows(0, 1), 6);
        due("follows(1, 0)", x.follows(1, 0), 5);
        due("follows(1, 1)", x.follows(1, 1), 2);
        due("follows(7, 7)", x.follows(7, 7), 99);
        due("follows(0, 7)", x.follows(0, 7), 99);
        due("follows(0, 0)", x.follows(0, 0), 0);
        due("not over a trace's end", x.follows(1, 7), 0);
        due("as often as can be", Logs.log("333333333333*99").follows(3, 3), 1089);
        checkPairs(x, "follows", x::follows);
    }

    private interface OfPair {
        Object ask(int a, int b);
    }

    private static void checkPairs(ProcessMiner x, String name, OfPair call) {
        for (int wrong : new int[] {-1, 8, Integer.MIN_VALUE, Integer.MAX_VALUE}) {
            Check.thrown(x, name + "(" + wrong + ", 0)", BOUNDS, () -> call.ask(wrong, 0));
            Check.thrown(x, name + "(7, " + wrong + ")", BOUNDS, () -> call.ask(7, wrong));
        }
    }

    private static void promise11Edges() {
        ProcessMiner x = Logs.log("012", "", "73", "5", "46*0");
        due("edges(false)", x.edges(false), 1 + 128 + 32);
        due("edges(true)", x.edges(true), 4 + 8 + 32);
        x.setTimes(4, 1);
        due("edges(false) with one more", x.edges(false), 161 + 16);
        due("edges(true) with one more", x.edges(true), 44 + 64);
        due("edges of empty traces", Logs.log("", "").edges(false), 0);
    }

    private static void promise12Relation() {
        ProcessMiner x = Logs.log("0120", "1022", "34*0");
        due("relation(0, 1)", x.relation(0, 1), 3);
        due("relation(1, 2)", x.relation(1, 2), 1);
        due("relation(2, 1)", x.relation(2, 1), 2);
        due("relation(2, 2)", x.relation(2, 2), 3);
        due("relation(0, 0)", x.relation(0, 0), 0);
        due("relation(0, 7)", x.relation(0, 7), 0);
        due("relation(3, 4)", x.relation(3, 4), 0);
        x.setTimes(2, 1);
        due("relation(4, 3)", x.relation(4, 3), 2);
        checkPairs(x, "relation", x::relation);
    }

    private static void promise13Leads() {
        ProcessMiner x = Logs.log("76", "65", "54", "43", "32", "21", "10", "00", "05*0");
        due("leads(7, 6)", x.leads(7, 6), true);
        due("leads(7, 0)", x.leads(7, 0), true);
        due("leads(0, 7)", x.leads(0, 7), false);
        due("leads(0, 0)", x.leads(0, 0), true);
        due("leads(3, 3)", x.leads(3, 3), false);
        due("leads(0, 5)", x.leads(0, 5), false);
        x.setTimes(8, 1);
        due("leads(0, 1)", x.leads(0, 1), true);
        due("leads(3, 3) by way of 0", x.leads(3, 3), true);
        due("leads(7, 7)", x.leads(7, 7), false);
        due("leads of none", new ProcessMiner().leads(0, 0), false);
        checkPairs(x, "leads", x::leads);
    }

    private static void promise14Variants() {
        ProcessMiner x = Logs.log("01", "01*7", "10", "", "", "0", "2*0", "1*0", "1");
        due("variants", x.variants(), 5);
        x.setTimes(6, 1);
        due("variants with one more", x.variants(), 6);
        x.setTimes(0, 0);
        due("variants with the twin left", x.variants(), 6);
        x.setTimes(1, 0);
        due("variants without it", x.variants(), 5);
        due("variants of ten", tenTraces().variants(), 10);
        due("variants that differ at their ends", Logs.log("012", "013", "312").variants(), 3);
    }

    private static void promise15Mine() {
        ProcessMiner x = new ProcessMiner();
        due("mine of none", x.mine(), 1);
        due("mine again", x.mine(), 1);
        Logs.store(x, "012");
        due("mine of more", x.mine(), 4);
        due("mine of 8", eightNodes().mine(), 8);
        long digest = x.digest();
        x.mine();
        due("mine again changes nothing", x.digest(), digest);
        x.event(0);
        due("mine with a buffer", x.mine(), 4);
        x.setTimes(0, 0);
        due("mine without its times", x.mine(), 1);
        x.setTimes(0, 1);
        due("mine with them", x.mine(), 4);
        x.dropTrace();
        due("mine of none again", x.mine(), 1);
        due("mine of many nodes", Logs.mined("", "0", "01", "012", "0123", "01234", "012345", "0123456",
                "01234567", "7").mine(), 27);
    }

    private interface OfNode {
        Object ask(int node);
    }

    private static void checkNodes(ProcessMiner x, String name, OfNode call) {
        x.mine();
        int size = x.mine();
        Check.thrown(x, name + "(" + size + ")", BOUNDS, () -> call.ask(size));
        for (int far : FAR) {
            Check.thrown(x, name + "(" + far + ")", BOUNDS, () -> call.ask(far));
        }
        x.setTimes(0, 1);
        for (int node : new int[] {0, -1, 64, Integer.MAX_VALUE}) {
            Check.thrown(x, name + "(" + node + ") with nothing mined", STATE, () -> call.ask(node));
        }
    }

    private static void dueOfNodes(String name, OfNode call, int... wants) {
        for (int node = 0; node < wants.length; node++) {
            due(name + "(" + node + ")", call.ask(node), wants[node]);
        }
    }

    private static void promise16Kind() {
        ProcessMiner x = eightNodes();
        dueOfNodes("kind", x::kind, 3, 1, 2, 4, 1, 1, 1, 1);
        dueOfNodes("kind", Logs.mined("", "00", "0")::kind, 2, 0, 5, 1, 0);
        checkNodes(x, "kind", x::kind);
        Check.thrown(new ProcessMiner(), "kind of a new one", STATE, () -> new ProcessMiner().kind(0));
    }

    private static void promise17LabelsOf() {
        ProcessMiner x = eightNodes();
        dueOfNodes("labelsOf", x::labelsOf, 31, 1, 22, 6, 2, 4, 16, 8);
        dueOfNodes("labelsOf", Logs.mined("", "77", "7")::labelsOf, 128, 0, 128, 128, 0);
        due("labelsOf ANY", Logs.mined("0123012", "0213", "31*2").labelsOf(0), 15);
        checkNodes(x, "labelsOf", x::labelsOf);
    }

    private static void promise18Parent() {
        ProcessMiner x = eightNodes();
        dueOfNodes("parent", x::parent, -1, 0, 0, 2, 3, 3, 2, 0);
        checkNodes(x, "parent", x::parent);
    }

    private static void promise19Children() {
        ProcessMiner x = eightNodes();
        dueOfNodes("children", x::children, 3, 0, 2, 2, 0, 0, 0, 0);
        due("children of eight", Logs.mined("01234567").children(0), 8);
        checkNodes(x, "children", x::children);
    }

    private static void promise20Child() {
        ProcessMiner x = eightNodes();
        dueOfNodes("child of 0", i -> x.child(0, i), 1, 2, 7);
        dueOfNodes("child of 2", i -> x.child(2, i), 3, 6);
        dueOfNodes("child of 3", i -> x.child(3, i), 4, 5);
        due("child(0, 7) of eight", Logs.mined("01234567").child(0, 7), 8);
        Check.thrown(x, "child(0, 3)", BOUNDS, () -> x.child(0, 3));
        Check.thrown(x, "child(2, 2)", BOUNDS, () -> x.child(2, 2));
        Check.thrown(x, "child(1, 0)", BOUNDS, () -> x.child(1, 0));
        for (int far : FAR) {
            Check.thrown(x, "child(0, " + far + ")", BOUNDS, () -> x.child(0, far));
        }
        checkNodes(x, "child", node -> x.child(node, 0));
        Check.thrown(x, "child(0, 99) with nothing mined", STATE, () -> x.child(0, 99));
    }

    private static void promise21Shortest() {
        ProcessMiner x = eightNodes();
        dueOfNodes("shortest", x::shortest, 3, 1, 1, 2, 1, 1, 1, 1);
        dueOfNodes("shortest of AGAIN(ORDER(0 1) 2)", Logs.mined("01201")::shortest, 2, 2, 1, 1, 1);
        dueOfNodes("shortest of CHOICE(- 0)", Logs.mined("", "0")::shortest, 0, 0, 1);
        dueOfNodes("shortest of CHOICE(ORDER(0 1) 2)", Logs.mined("01", "2")::shortest, 1, 2, 1, 1, 1);
        due("shortest of ANY", Logs.mined("0123012", "0213", "31*2").shortest(0), 0);
        due("shortest of eight", Logs.mined("01234567").shortest(0), 8);
        checkNodes(x, "shortest", x::shortest);
    }

    private static void promise22Height() {
        ProcessMiner x = eightNodes();
        due("height of 8", x.height(), 4);
        due("height of NOTHING", Logs.mined().height(), 1);
        due("height of CHOICE(- AGAIN(0 -))", Logs.mined("", "00").height(), 3);
        due("height where the deepest is not the last", Logs.mined("010", "2").height(), 3);
        x.setTimes(0, 3);
        Check.thrown(x, "height with nothing mined", STATE, x::height);
    }

    private static void promise23Accepts() {
        ProcessMiner x = Logs.log("0123*3", "0213*2", "043", "0413*0", "03*0", "*0", "0125*0", "043*0");
        Check.thrown(x, "accepts(0) with nothing mined", STATE, () -> x.accepts(0));
        Check.thrown(x, "accepts(99) with nothing mined", STATE, () -> x.accepts(99));
        x.mine();
        boolean[] wants = {true, true, true, false, false, false, false, true};
        for (int t = 0; t < wants.length; t++) {
            due("accepts(" + t + ")", x.accepts(t), wants[t]);
        }
        Check.thrown(x, "accepts(8)", BOUNDS, () -> x.accepts(8));
        for (int far : FAR) {
            Check.thrown(x, "accepts(" + far + ")", BOUNDS, () -> x.accepts(far));
        }
        ProcessMiner empty = Logs.mined("*0", "0*0", FULL);
        due("the empty trace is no word", empty.accepts(0), false);
        due("the long trace is a word", empty.accepts(2), true);
        due("NOTHING has the empty word", Logs.mined("*0").accepts(0), true);
        due("NOTHING has no other", Logs.mined("3*0").accepts(0), false);
    }

    private static void promise24AcceptsBuffer() {
        ProcessMiner x = eightNodes();
        due("the empty buffer", x.acceptsBuffer(), false);
        Logs.type(x, "02");
        due("02", x.acceptsBuffer(), false);
        Logs.type(x, "13");
        due("0213", x.acceptsBuffer(), true);
        x.event(3);
        due("02133", x.acceptsBuffer(), false);
        x.endTrace(0);
        Check.thrown(x, "acceptsBuffer with nothing mined", STATE, x::acceptsBuffer);
        ProcessMiner again = Logs.mined("00");
        Logs.type(again, "000000000000");
        due("12 labels", again.acceptsBuffer(), true);
        due("NOTHING has the empty word", Logs.mined().acceptsBuffer(), true);
    }

    private static void promise25Fitness() {
        ProcessMiner x = Logs.log("01*9", "10*0", "*0");
        Check.thrown(x, "fitness with nothing mined", STATE, x::fitness);
        x.mine();
        due("fitness 1 of 3", x.fitness(), 1.0 / 3.0);
        x.setTimes(1, 1);
        x.mine();
        due("fitness 2 of 3", x.fitness(), 2.0 / 3.0);
        due("fitness of none", Logs.mined().fitness(), 1.0);
        due("fitness 0 of 1", Logs.mined("0*0").fitness(), 0.0);
        due("fitness 3 of 10", Logs.mined("01", "01", "1*0", "0*0", "00*0", "*0", "01*0", "2*0", "3*0", "4*0")
                .fitness(), 0.3);
    }

    private static void dueOfWords(String what, ProcessMiner x, int... wants) {
        for (int length = 0; length < wants.length; length++) {
            due(what + ": words(" + length + ")", x.words(length), wants[length]);
        }
    }

    private static void promise26Words() {
        ProcessMiner x = eightNodes();
        dueOfWords("ORDER", x, 0, 0, 0, 1);
        Check.thrown(x, "words(-1)", ARGUMENT, () -> x.words(-1));
        Check.thrown(x, "words(4)", ARGUMENT, () -> x.words(4));
        Check.thrown(x, "words(MIN)", ARGUMENT, () -> x.words(Integer.MIN_VALUE));
        x.endTrace(0);
        Check.thrown(x, "words(3) with nothing mined", STATE, () -> x.words(3));
        Check.thrown(x, "words(4) with nothing mined", STATE, () -> x.words(4));
        dueOfWords("NOTHING", Logs.mined(), 1, 0, 0, 0);
        dueOfWords("LABEL", Logs.mined("7"), 0, 1, 0, 0);
        dueOfWords("AGAIN(0 -)", Logs.mined("00"), 0, 1, 1, 1);
        dueOfWords("AGAIN(0 1 2)", Logs.mined("010", "020"), 0, 1, 0, 2);
        dueOfWords("BOTH(ORDER(0 1) 2)", Logs.mined("012", "021", "201"), 0, 0, 0, 3);
        dueOfWords("ANY0123", Logs.mined("0123012", "0213", "31*2"), 1, 4, 16, 64);
        dueOfWords("CHOICE of eight", Logs.mined("7", "6", "5", "4", "3", "2", "1", "0"), 0, 8, 0, 0);
        dueOfWords("AGAIN(ORDER(CHOICE(- 0) CHOICE(- 1)) 2)", Logs.mined("021", "120", "01", "0"), 1, 3, 6, 13);
        ProcessMiner buffer = Logs.mined("00");
        Logs.type(buffer, "11");
        buffer.words(3);
        due("words leaves the buffer", buffer.event(1), 3);
    }

    private static void promise27Digest() {
        ProcessMiner x = new ProcessMiner();
        due("digest of a new one", x.digest(), digestOf(0, 0));
        Logs.type(x, "70");
        due("digest with a buffer", x.digest(), digestOf(2, 7, 0, 0));
        x.endTrace(99);
        due("digest with a trace", x.digest(), digestOf(0, 1, 99, 2, 7, 0));
        x.endTrace(0);
        x.event(5);
        due("digest with two", x.digest(), digestOf(1, 5, 2, 99, 2, 7, 0, 0, 0));
        x.mine();
        due("digest when mined", x.digest(),
                digestOf(1, 5, 2, 99, 2, 7, 0, 0, 0, 3, 3, 129, 2, 1, 128, 0, 1, 1, 0));
        x.dropTrace();
        due("digest with a tree no more", x.digest(), digestOf(1, 5, 1, 99, 2, 7, 0));
        x.dropTrace();
        x.mine();
        due("digest of NOTHING", x.digest(), digestOf(1, 5, 0, 1, 0, 0, 0));
        int[] numbers = new int[14];
        ProcessMiner full = new ProcessMiner();
        numbers[0] = 12;
        for (int i = 0; i < 12; i++) {
            full.event(7);
            numbers[i + 1] = 7;
        }
        due("digest that wraps around", full.digest(), digestOf(numbers));
        due("digest that wraps around is below 0", digestOf(numbers) < 0, true);
    }

    private static long digestOf(int... numbers) {
        java.math.BigInteger d = java.math.BigInteger.valueOf(167);
        for (int x : numbers) {
            d = d.multiply(java.math.BigInteger.valueOf(31)).add(java.math.BigInteger.valueOf(x));
        }
        return d.longValue();
    }
}
