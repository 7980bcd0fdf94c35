import java.util.List;
import java.util.function.Supplier;

/** Each sentence of the document's description that is not a rule of mining, at the cases on its boundary. */
final class DescriptionTest {
    private static final Class<IndexOutOfBoundsException> BOUNDS = IndexOutOfBoundsException.class;
    private static final Class<IllegalArgumentException> ARGUMENT = IllegalArgumentException.class;
    private static final Class<IllegalStateException> STATE = IllegalStateException.class;
    private static final String TWELVE = "012345670123";

    private static final Sentences SENTENCES = new Sentences();

    private DescriptionTest() {
    }

    public static void main(String[] args) {
        lifeOfAnObject();
        logs();
        relations();
        kindsOfTrees();
        wordsOfTrees();
        numbersOfNodes();
        keepingTheTree();
        exceptions();
        RulesOfMining.test(SENTENCES);
        SENTENCES.pass("Description", "The constructor and the methods follow, a promise each: the signature, then "
                + "what it does.");
        SENTENCES.dueAll("Description");
        Check.finish("DescriptionTest");
    }

    private static void test(String sentence, Runnable checks) {
        SENTENCES.test("Description", sentence, checks);
    }

    private static void due(String what, Object got, Object want) {
        Check.due(what, got, want);
    }

    private static void lifeOfAnObject() {
        SENTENCES.test("What it is", "An object is used for at most 512 calls after it has been made", () -> {
            for (int calls = 500; calls <= 512; calls++) {
                ProcessMiner x = new ProcessMiner();
                for (int i = 2; i < calls; i++) {
                    due("call " + i, i % 2 == 0 ? x.endTrace(i % 100) : x.dropTrace(), 0);
                }
                x.event(7);
                due("call " + calls, x.digest(), calls % 2 == 0 ? digestOf(1, 7, 0)
                        : digestOf(1, 7, 1, (calls - 1) % 100, 0));
            }
        });
    }

    private static long digestOf(int... numbers) {
        java.math.BigInteger d = java.math.BigInteger.valueOf(167);
        for (int x : numbers) {
            d = d.multiply(java.math.BigInteger.valueOf(31)).add(java.math.BigInteger.valueOf(x));
        }
        return d.longValue();
    }

    private static void logs() {
        test("There are 8 labels, 0 to 7.", () -> {
            for (int label = 0; label < 8; label++) {
                ProcessMiner x = Logs.log("" + label);
                due("the set of label " + label, x.labels(), 1 << label);
            }
            for (int label : new int[] {Integer.MIN_VALUE, -1, 8, Integer.MAX_VALUE}) {
                Answers.refused("event(" + label + ")", ProcessMiner::new, BOUNDS, x -> x.event(label));
            }
        });
        test("A trace is a sequence of at most 12 labels, perhaps empty, and a number of times, 0 to 99.", () -> {
            ProcessMiner x = Logs.log("*0", TWELVE + "*99", "01234567012*98", "7*1");
            due("labels of the empty trace", x.length(0), 0);
            due("labels of the full trace", x.length(1), 12);
            due("labels of one less", x.length(2), 11);
            due("times of the empty trace", x.setTimes(0, 99), 0);
            due("times of the full trace", x.setTimes(1, 0), 99);
            due("times of one less", x.setTimes(2, 1), 98);
            due("times when set to the most", x.setTimes(0, 5), 99);
            Logs.type(x, TWELVE);
            due("a label more", Answers.tell(x, y -> y.event(0)), STATE);
            due("times below", Answers.tell(x, y -> y.endTrace(-1)), ARGUMENT);
            due("times above", Answers.tell(x, y -> y.endTrace(100)), ARGUMENT);
        });
        test("There are at most 10 traces, numbered from 0 in the order in which they were stored.", () -> {
            ProcessMiner x = new ProcessMiner();
            for (int trace = 0; trace < 10; trace++) {
                Logs.type(x, TWELVE.substring(0, trace));
                due("number of trace " + trace, x.endTrace(trace), trace);
            }
            due("an eleventh", Answers.tell(x, y -> y.endTrace(1)), STATE);
            for (int trace = 0; trace < 10; trace++) {
                due("length of trace " + trace, x.length(trace), trace);
            }
            due("traces", x.traceCount(), 10);
        });
        test("A log is a row of traces with their numbers of times; traces with 0 times are left aside.", () ->
                dueAside());
        test("Sets of labels are told as the sum of the powers 2^k of their numbers k.", () -> {
            due("no label", Logs.log("").labels(), 0);
            due("label 0", Logs.log("0").labels(), 1);
            due("label 7", Logs.log("7").labels(), 128);
            due("all labels", Logs.log("76543210").labels(), 255);
            due("labels that begin", Logs.log("07", "70", "30").edges(false), 1 + 128 + 8);
            due("labels of a tree", Logs.mined("76543210").labelsOf(0), 255);
        });
    }

    // The other traces alone answer the same, but for what asks for a trace by its number.
    private static void dueAside() {
        ProcessMiner x = Logs.log("01*1", "10*0", "*0", "0765*0", "01*0", "33*0");
        ProcessMiner y = Logs.log("01*1");
        due("labels", x.labels(), 3);
        due("edges(false)", x.edges(false), 1);
        due("edges(true)", x.edges(true), 2);
        due("variants", x.variants(), 1);
        for (int a = 0; a < 8; a++) {
            for (int b = 0; b < 8; b++) {
                due("follows " + a + b, x.follows(a, b), y.follows(a, b));
                due("relation " + a + b, x.relation(a, b), y.relation(a, b));
            }
        }
        due("leads(1, 0)", x.leads(1, 0), false);
        due("leads(0, 5)", x.leads(0, 5), false);
        due("leads(3, 3)", x.leads(3, 3), false);
        due("nodes", x.mine(), 3);
        due("tree", Logs.tree(x, 0), "ORDER(0 1)");
        x.setTimes(0, 0);
        due("labels of none", x.labels() + x.edges(true) + x.edges(false) + x.variants(), 0);
        due("follows of none", x.follows(0, 1), 0);
        due("nodes of none", x.mine(), 1);
        x.setTimes(1, 1);
        due("labels of another one", x.labels(), 3);
        due("edges of another one", x.edges(false), 2);
        due("relation of another one", x.relation(0, 1), 2);
        x.setTimes(2, 1);
        due("variants with the empty one", x.variants(), 2);
    }

    private static void relations() {
        test("In a log, a label follows another one (or itself) as often as it comes right behind it in a trace, "
                + "each time counted as often as the trace has times.", () -> {
            due("in a trace of none", Logs.log("").follows(0, 0), 0);
            due("in a trace of one", Logs.log("0*99").follows(0, 0), 0);
            due("in a trace of two", Logs.log("00*99").follows(0, 0), 99);
            due("the first and second", Logs.log("70" + "1111111111").follows(7, 0), 1);
            due("the last two", Logs.log("1111111111" + "70").follows(7, 0), 1);
            due("not right behind", Logs.log("071").follows(0, 1), 0);
            due("not ahead", Logs.log("01").follows(1, 0), 0);
            due("not from trace to trace", Logs.log("0", "1").follows(0, 1), 0);
            due("not from a full trace to the next", Logs.log("000000000000", "1").follows(0, 1), 0);
            due("with 0 times", Logs.log("01*0").follows(0, 1), 0);
            due("with 1 time", Logs.log("01*1").follows(0, 1), 1);
            String most = "777777777777*99";
            due("as often as can be", Logs.log(most, most, most, most, most, most, most, most, most, most)
                    .follows(7, 7), 10890);
        });
        test("A label begins if some trace begins with it, and ends if some trace ends with it.", () -> {
            due("none begins", Logs.log("").edges(false), 0);
            due("none ends", Logs.log("").edges(true), 0);
            due("one label begins", Logs.log("4").edges(false), 16);
            due("one label ends", Logs.log("4").edges(true), 16);
            due("the first of 12 begins", Logs.log(TWELVE).edges(false), 1);
            due("the last of 12 ends", Logs.log(TWELVE).edges(true), 8);
            ProcessMiner all = Logs.log("01", "12", "23", "34", "45", "56", "67", "70", "", "01");
            due("all begin", all.edges(false), 255);
            due("all end", all.edges(true), 255);
            all.setTimes(7, 0);
            due("all but one begin", all.edges(false), 127);
            due("all but one end", all.edges(true), 254);
        });
        test("A label leads to another one if this follows it, or follows one that it leads to.", () -> {
            due("at once", Logs.log("07").leads(0, 7), true);
            due("by way of one", Logs.log("07", "73").leads(0, 3), true);
            ProcessMiner ring = Logs.log("76", "65", "54", "43", "32", "21", "10");
            due("by way of six", ring.leads(7, 0), true);
            due("not back", ring.leads(0, 7), false);
            due("not to itself", ring.leads(7, 7), false);
            Logs.store(ring, "07");
            due("to itself, by way of seven", ring.leads(7, 7), true);
            due("back", ring.leads(0, 7), true);
            due("itself follows it", Logs.log("55").leads(5, 5), true);
            due("alone", Logs.log("5").leads(5, 5), false);
            due("from trace to trace no label leads", Logs.log("0", "1").leads(0, 1), false);
        });
    }

    private static void dueKind(String what, int kind, String... traces) {
        due(what, Logs.mined(traces).kind(0), kind);
    }

    private static void kindsOfTrees() {
        test("A tree has nodes of the kinds 0 NOTHING, 1 LABEL, 2 CHOICE, 3 ORDER, 4 BOTH, 5 AGAIN, 6 ANY.", () -> {
            dueKind("NOTHING", 0);
            dueKind("LABEL", 1, "7");
            dueKind("CHOICE", 2, "0", "7");
            dueKind("ORDER", 3, "07");
            dueKind("BOTH", 4, "07", "70");
            dueKind("AGAIN", 5, "070");
            dueKind("ANY", 6, "07", "707");
        });
    }

    private static void dueWords(String tree, List<String> traces, List<String> words, List<String> others) {
        ProcessMiner x = Logs.mined(traces.toArray(new String[0]));
        due("the tree", Logs.tree(x, 0), tree);
        for (String word : words) {
            due("'" + word + "' in " + tree, isWord(traces, word), true);
        }
        for (String other : others) {
            due("'" + other + "' in " + tree, isWord(traces, other), false);
        }
    }

    private static boolean isWord(List<String> traces, String word) {
        ProcessMiner x = Logs.mined(traces.toArray(new String[0]));
        Logs.type(x, word);
        return x.acceptsBuffer();
    }

    private static void wordsOfTrees() {
        test("Its words are: of NOTHING the empty one;", () ->
                dueWords("-", List.of(""), List.of(""), List.of("0", "7", "00", TWELVE)));
        test("of LABEL the one with its label alone;", () -> {
            dueWords("7", List.of("7"), List.of("7"), List.of("", "6", "0", "77", "70", "07", "777777777777"));
            dueWords("0", List.of("0"), List.of("0"), List.of("", "1", "00", "01"));
        });
        test("of CHOICE the words of its children;", () -> {
            dueWords("CHOICE(0 7)", List.of("0", "7"), List.of("0", "7"), List.of("", "07", "70", "00", "1"));
            dueWords("CHOICE(- 7)", List.of("", "7"), List.of("", "7"), List.of("77", "0"));
            dueWords("CHOICE(ORDER(0 1) ORDER(2 3))", List.of("01", "23"), List.of("01", "23"),
                    List.of("", "0123", "0213", "0", "1", "03", "21"));
        });
        test("of ORDER a word of each child, one behind the other, in their order;", () -> {
            dueWords("ORDER(7 0)", List.of("70"), List.of("70"), List.of("", "7", "0", "07", "770", "700", "707"));
            dueWords("ORDER(CHOICE(- 0) CHOICE(- 1))", List.of("01", "0", "1"), List.of("", "0", "1", "01"),
                    List.of("10", "00", "11", "011", "2"));
            dueWords("ORDER(7 6 5 4 3 2 1 0)", List.of("76543210"), List.of("76543210"),
                    List.of("7654321", "6543210", "76543201", "7654321076"));
            dueWords("ORDER(AGAIN(0 -) 1 CHOICE(- 2))", List.of("001", "0012"),
                    List.of("01", "012", "000000000001", "000000000012"),
                    List.of("000000000000", "000000000002", "000000000010", "100000000000", "0122", "12"));
        });
        test("of BOTH a word of each child, mixed in any way, such that those of one child keep their order;", () -> {
            dueWords("BOTH(ORDER(0 1) 2)", List.of("012", "021", "201"), List.of("012", "021", "201"),
                    List.of("", "102", "120", "210", "01", "2", "02", "12", "0012", "0122", "01201"));
            dueWords("BOTH(0 1 2)", List.of("012", "021", "102", "120", "201", "210"),
                    List.of("012", "021", "102", "120", "201", "210"), List.of("", "01", "0120", "00", "3"));
            dueWords("BOTH(ORDER(0 1) ORDER(2 3))", List.of("0123", "2301", "0213", "2031"),
                    List.of("0123", "0213", "0231", "2013", "2031", "2301"),
                    List.of("1023", "0132", "3201", "0321", "012", "01233", ""));
        });
        test("of AGAIN a word of its first child, then, none or more times, a word of another child and a word of "
                + "the first one;", () -> {
            dueWords("AGAIN(0 1 2)", List.of("010", "020"),
                    List.of("0", "010", "020", "01020", "02010", "01010101010", "02020202020"),
                    List.of("", "1", "2", "00", "01", "10", "0110", "01210", "012", "010101010101", "101"));
            dueWords("AGAIN(4 -)", List.of("44"), List.of("4", "44", "444", "444444444444"), List.of("", "0", "40"));
            dueWords("AGAIN(ORDER(0 1) 2)", List.of("01201"), List.of("01", "01201", "01201201201"),
                    List.of("", "2", "012", "0101", "201", "0120", "01220101"));
            dueInTurn();
            // The first child may have the empty word: then the others stand alone, or side by side.
            dueWords("AGAIN(ORDER(CHOICE(- 0) CHOICE(- 1)) 2)", List.of("021", "120", "01", "0"),
                    List.of("", "2", "22", "222222222222", "0", "1", "01", "012201"), List.of("10", "00", "0011"));
            // The longest word of the first child does not always lead on: 01001 is 01 and 001.
            dueWords("AGAIN(BOTH(AGAIN(0 -) CHOICE(- 1)) ORDER(CHOICE(- 2) CHOICE(- 3)))",
                    List.of("0", "01", "10", "00", "020", "0310", "012310"),
                    List.of("01001", "0110", "0101", "100100100", "0302310"), List.of("", "1", "11", "011", "02", "2"));
        });
        test("of ANY all sequences, also the empty one, of the labels of a set.", () -> {
            dueWords("ANY01", List.of("01", "101"), List.of("", "0", "1", "00", "11", "10", "000000000000",
                    "111111111111", "010101010101"), List.of("2", "02", "20", "000000000002", "7"));
            dueWords("ANY07", List.of("07", "707"), List.of("", "7", "70", "777777777777"), List.of("1", "6", "16"));
        });
    }

    // All children but 0 have the empty word; what is asked for first must not show in the answers behind it.
    private static void dueInTurn() {
        ProcessMiner x = Logs.mined("0", "14", "41", "041", "1420", "0341", "41230", "014*0", "11*0", "1*0");
        due("the tree", Logs.tree(x, 0), "AGAIN(ORDER(CHOICE(- 0) CHOICE(- BOTH(1 4))) ORDER(CHOICE(- 2) CHOICE(- 3)))");
        for (int round = 0; round < 3; round++) {
            for (int t = 0; t < 10; t++) {
                due("accepts(" + t + ") in round " + round, x.accepts(t), t < 8);
            }
        }
    }

    private static void numbersOfNodes() {
        test("Nodes are numbered from 0 in this order: a node comes ahead of its children, and all that is below a "
                + "child comes ahead of the next child.", () -> {
            // ORDER(0 CHOICE(BOTH(1 2) 4) 3)
            ProcessMiner x = Logs.mined("0123", "0213", "043");
            int[] kinds = {3, 1, 2, 4, 1, 1, 1, 1};
            int[] sets = {31, 1, 22, 6, 2, 4, 16, 8};
            for (int node = 0; node < kinds.length; node++) {
                due("kind of node " + node, x.kind(node), kinds[node]);
                due("set of node " + node, x.labelsOf(node), sets[node]);
            }
            due("nodes", x.mine(), 8);
            due("the one node of NOTHING", Logs.mined().kind(0), 0);
            dueOrdered(x);
            dueOrdered(Logs.mined("", "0", "01", "012", "0123", "01234", "012345", "0123456", "01234567", "7"));
            dueOrdered(Logs.mined("", "001", "0123", "7", "66", "4544"));
        });
    }

    private static void dueOrdered(ProcessMiner x) {
        int size = x.mine();
        int next = 1;
        for (int node = 0; node < size; node++) {
            int from = node;
            for (int i = 0; i < x.children(node); i++) {
                due("child " + i + " of " + node + " comes behind", x.child(node, i) > from, true);
                due("its parent", x.parent(x.child(node, i)), node);
                due("the first child comes next", i > 0 || x.child(node, 0) == node + 1, true);
                from = x.child(node, i);
                next++;
            }
        }
        due("every node is a child, but for node 0", next, size);
    }

    private static ProcessMiner kept() {
        ProcessMiner x = Logs.mined("01*3", "2*0", "");
        x.event(5);
        return x;
    }

    private static void dueGone(String what, Supplier<ProcessMiner> made, Answers.Ask change) {
        ProcessMiner x = made.get();
        due("the tree stands before " + what, x.kind(0), 2);
        Object answer = Answers.tell(x, change);
        due(what + " throws nothing", answer instanceof Integer, true);
        due("kind after " + what, Answers.tell(x, y -> y.kind(0)), STATE);
        due("height after " + what, Answers.tell(x, ProcessMiner::height), STATE);
        due("fitness after " + what, Answers.tell(x, ProcessMiner::fitness), STATE);
        due("words after " + what, Answers.tell(x, y -> y.words(0)), STATE);
        due("accepts after " + what, Answers.tell(x, y -> y.accepts(0)), STATE);
        due("acceptsBuffer after " + what, Answers.tell(x, ProcessMiner::acceptsBuffer), STATE);
        x.mine();
        due("kind when mined again", Answers.tell(x, y -> y.kind(0)) instanceof Integer, true);
    }

    private static void dueStands(String what, Supplier<ProcessMiner> made, Answers.Ask call) {
        ProcessMiner x = made.get();
        String tree = Logs.tree(x, 0);
        Answers.tell(x, call);
        due("kind after " + what, Answers.tell(x, y -> y.kind(0)), 2);
        due("the tree after " + what, Logs.tree(x, 0), tree);
    }

    private static void keepingTheTree() {
        test("The tree is kept until the next call of endTrace, setTimes or dropTrace that throws no exception (also "
                + "if it changes nothing).", () -> {
            Supplier<ProcessMiner> made = DescriptionTest::kept;
            dueGone("endTrace(1)", made, x -> x.endTrace(1));
            dueGone("endTrace(0)", made, x -> x.endTrace(0));
            dueGone("dropTrace", made, ProcessMiner::dropTrace);
            dueGone("setTimes to others", made, x -> x.setTimes(0, 4));
            dueGone("setTimes to the same", made, x -> x.setTimes(0, 3));
            dueGone("setTimes to the same 0", made, x -> x.setTimes(1, 0));
            dueGone("setTimes to 0", made, x -> x.setTimes(2, 0));
            Supplier<ProcessMiner> none = () -> Logs.mined("", "0", "*0");
            dueGone("dropTrace of an empty one with 0 times", none, ProcessMiner::dropTrace);
            dueGone("endTrace of nothing, 0 times", none, x -> x.endTrace(0));
            dueStands("event", made, x -> x.event(0));
            dueStands("event that is refused", made, x -> x.event(8));
            dueStands("mine", made, ProcessMiner::mine);
            dueStands("endTrace(-1)", made, x -> x.endTrace(-1));
            dueStands("endTrace(100)", made, x -> x.endTrace(100));
            dueStands("setTimes(0, 100)", made, x -> x.setTimes(0, 100));
            dueStands("setTimes(0, -1)", made, x -> x.setTimes(0, -1));
            dueStands("setTimes(3, 1)", made, x -> x.setTimes(3, 1));
            dueStands("setTimes(-1, 1)", made, x -> x.setTimes(-1, 1));
            Supplier<ProcessMiner> full = () -> Logs.mined("0", "1", "2", "3", "4", "5", "6", "7", "", "0*0");
            dueStands("endTrace with 10 traces", full, x -> x.endTrace(1));
            ProcessMiner empty = Logs.mined();
            due("dropTrace of none", Answers.tell(empty, ProcessMiner::dropTrace), STATE);
            due("kind after dropTrace of none", empty.kind(0), 0);
        });
    }

    private static void exceptions() {
        test("A method that throws an exception changes nothing.", () -> {
            Answers.refused("event(8)", DescriptionTest::kept, BOUNDS, x -> x.event(8));
            Answers.refused("endTrace(100)", DescriptionTest::kept, ARGUMENT, x -> x.endTrace(100));
            Answers.refused("setTimes(3, 0)", DescriptionTest::kept, BOUNDS, x -> x.setTimes(3, 0));
            Answers.refused("setTimes(0, 100)", DescriptionTest::kept, ARGUMENT, x -> x.setTimes(0, 100));
            Answers.refused("kind(99)", DescriptionTest::kept, BOUNDS, x -> x.kind(99));
            Answers.refused("words(4)", DescriptionTest::kept, ARGUMENT, x -> x.words(4));
            Answers.refused("dropTrace", ProcessMiner::new, STATE, ProcessMiner::dropTrace);
            Answers.refused("fitness", ProcessMiner::new, STATE, ProcessMiner::fitness);
        });
        test("If several exceptions apply, the one that is named first is thrown.", () -> {
            Supplier<ProcessMiner> full = () -> {
                ProcessMiner x = Logs.mined("0", "1", "2", "3", "4", "5", "6", "7", "", "0*0");
                Logs.type(x, TWELVE);
                return x;
            };
            Answers.refused("event(8) when full", full, BOUNDS, x -> x.event(8));
            Answers.refused("event(-1) when full", full, BOUNDS, x -> x.event(-1));
            Answers.refused("endTrace(100) when full", full, ARGUMENT, x -> x.endTrace(100));
            Answers.refused("endTrace(-1) when full", full, ARGUMENT, x -> x.endTrace(-1));
            Answers.refused("setTimes(10, 100)", full, BOUNDS, x -> x.setTimes(10, 100));
            Answers.refused("setTimes(-1, -1)", full, BOUNDS, x -> x.setTimes(-1, -1));
            Supplier<ProcessMiner> bare = ProcessMiner::new;
            Answers.refused("kind(1) with no tree", bare, STATE, x -> x.kind(1));
            Answers.refused("labelsOf(-1) with no tree", bare, STATE, x -> x.labelsOf(-1));
            Answers.refused("parent(1) with no tree", bare, STATE, x -> x.parent(1));
            Answers.refused("children(-1) with no tree", bare, STATE, x -> x.children(-1));
            Answers.refused("child(1, 0) with no tree", bare, STATE, x -> x.child(1, 0));
            Answers.refused("child(0, -1) with no tree", bare, STATE, x -> x.child(0, -1));
            Answers.refused("shortest(1) with no tree", bare, STATE, x -> x.shortest(1));
            Answers.refused("accepts(0) with no tree and no trace", bare, STATE, x -> x.accepts(0));
            Answers.refused("words(4) with no tree", bare, STATE, x -> x.words(4));
            Answers.refused("words(-1) with no tree", bare, STATE, x -> x.words(-1));
        });
    }
}
