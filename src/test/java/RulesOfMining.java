import java.util.Arrays;

/** The sentences of the rules of mining, each with the logs on its boundary; the trees were found by hand. */
final class RulesOfMining {
    private final Sentences sentences;

    private RulesOfMining(Sentences sentences) {
        this.sentences = sentences;
    }

    static void test(Sentences sentences) {
        RulesOfMining rules = new RulesOfMining(sentences);
        rules.firstThatFits();
        rules.rule1();
        rules.rule2();
        rules.rule3();
        rules.rule4();
        rules.rule5();
        rules.rule6();
        rules.rule7();
        rules.rule7Pieces();
        rules.rule8();
        rules.partsAndPieces();
    }

    private void test(String sentence, Runnable checks) {
        sentences.test("Description", sentence, checks);
    }

    private static void due(String tree, String... traces) {
        Check.due("tree of " + String.join(", ", traces), Logs.tree(traces), tree);
    }

    /** So many traces that are the same, then the others. */
    private static String[] many(int count, String trace, String... others) {
        String[] traces = new String[count + others.length];
        Arrays.fill(traces, trace);
        System.arraycopy(others, 0, traces, count, others.length);
        return traces;
    }

    // More than one rule fits to each of these logs.
    private void firstThatFits() {
        test("The tree of a log is found by the first of these rules that fits; each child is the tree of a smaller "
                + "log, in the order that is said.", () -> {
            due("-", "", "");
            due("CHOICE(- 0)", "", "0");
            due("CHOICE(- CHOICE(0 1))", "", "0", "1");
            due("CHOICE(- AGAIN(0 -))", "", "00");
            due("CHOICE(ORDER(0 1) 2)", "01", "2");
            due("CHOICE(AGAIN(0 1) AGAIN(2 -))", "010", "22");
            due("ORDER(BOTH(0 1) 2)", "012", "102");
            due("BOTH(0 AGAIN(1 -))", "0111", "10");
            due("AGAIN(0 ANY12)", "0120", "02120");
        });
    }

    private void rule1() {
        test("All its traces are empty, or it has none: NOTHING.", () -> {
            due("-");
            due("-", "");
            due("-", many(10, ""));
            due("-", "0*0");
            due("-", "", "0*0", "012345670123*0");
            due("0", "0");
            due("CHOICE(- 0)", many(9, "", "0"));
            Check.due("the nodes of NOTHING", Logs.mined("").mine(), 1);
            Check.due("the children of NOTHING", Logs.mined("").children(0), 0);
        });
    }

    private void rule2() {
        test("Some trace is empty: a CHOICE of NOTHING and the tree of the other traces.", () -> {
            due("CHOICE(- 7)", many(9, "7", ""));
            due("CHOICE(- 7)", many(9, "", "7"));
            due("7", many(9, "7", "*0"));
            due("CHOICE(- ORDER(0 1 2 3 4 5 6 7))", "01234567", "*99");
            due("CHOICE(- CHOICE(0 1 2))", "2", "1", "", "0");
            due("ORDER(0 CHOICE(- 1))", "0", "01");
            due("CHOICE(- ORDER(CHOICE(- 0) CHOICE(- 1)))", "", "01", "0", "1");
            due("BOTH(0 CHOICE(- AGAIN(1 -)))", "011", "10", "0");
        });
    }

    private void rule3() {
        test("It has one label alone: LABEL, if each trace has it once; otherwise AGAIN, of LABEL and NOTHING.", () -> {
            due("0", "0");
            due("7", "7*99");
            due("7", many(10, "7"));
            due("7", many(9, "7", "77*0"));
            due("AGAIN(7 -)", many(9, "7", "77"));
            due("AGAIN(7 -)", many(9, "77", "7"));
            due("AGAIN(0 -)", "00");
            due("AGAIN(0 -)", "000000000000");
            due("ORDER(AGAIN(0 -) AGAIN(1 -))", "0011");
            due("ORDER(0 1)", "01");
            ProcessMiner x = Logs.mined("77");
            Check.due("sets of AGAIN(7 -)", "" + x.labelsOf(0) + " " + x.labelsOf(1) + " " + x.labelsOf(2),
                    "128 128 0");
        });
    }

    private void rule4() {
        test("Its labels can be parted, so that none follows a label of another part: a CHOICE of the smallest such "
                + "parts; the log of a part has the traces with its labels.", () -> {
            due("CHOICE(0 7)", "0", "7");
            due("CHOICE(0 7)", "0", "7", "07*0");
            due("ORDER(CHOICE(- 0) CHOICE(- 7))", "0", "7", "07");
            due("ORDER(CHOICE(- 7) CHOICE(- 0))", "0", "7", "70");
            due("CHOICE(0 1 2 3 4 5 6 7)", "7", "6", "5", "4", "3", "2", "1", "0");
            due("CHOICE(ORDER(0 1) ORDER(2 3) ORDER(4 5) ORDER(6 7))", "67", "45", "23", "01");
            due("CHOICE(ORDER(0 1 2 3) ORDER(4 5 6 7))", "4567", "0123");
            due("ORDER(CHOICE(- 0) 1 CHOICE(- 2))", "01", "12");
            due("CHOICE(AGAIN(0 -) AGAIN(7 -))", "00", "77");
            due("CHOICE(AGAIN(0 -) 1)", "0", "1", "00");
        });
    }

    private void rule5() {
        test("Its labels can be parted in an ORDER: two labels are in the same part if each of them leads to the "
                + "other one, or none does; and if they are so by way of others.", () -> {
            due("ORDER(0 1)", "01");
            due("AGAIN(0 1)", "010");
            due("AGAIN(0 ORDER(1 2))", "0120");
            due("ORDER(0 CHOICE(1 2))", "01", "02");
            due("ORDER(CHOICE(0 1) 2)", "02", "12");
            due("ORDER(0 CHOICE(ORDER(1 3) 2))", "013", "02");
            due("ORDER(0 AGAIN(1 2) 3)", "01213");
            due("ORDER(CHOICE(- 0) 1 CHOICE(- 2))", "01", "12");
            due("ORDER(AGAIN(0 -) 1)", "001");
        });
        test("If there are at least two parts, they are ordered so that labels of earlier parts lead to those of later "
                + "ones.", () -> {
            due("ORDER(1 0)", "10");
            due("ORDER(0 1 2 3 4 5 6 7)", "01234567");
            due("ORDER(7 6 5 4 3 2 1 0)", "76543210");
            due("ORDER(3 7 0 6 1 5 2 4)", "37061524");
            due("ORDER(7 AGAIN(0 1) 6)", "70106");
            due("ORDER(CHOICE(- 4) CHOICE(- 2) CHOICE(- 6) CHOICE(- 0))", "42", "26", "60");
            due("AGAIN(0 1)", "010");
        });
        test("The log of a part has all traces, each with its labels alone (perhaps empty).", () -> {
            due("ORDER(0 CHOICE(- 1) 2)", "02", "012");
            due("ORDER(0 CHOICE(- AGAIN(1 -)))", many(9, "011", "0"));
            due("ORDER(CHOICE(- 0) 1)", many(9, "1", "01"));
            due("ORDER(CHOICE(- AGAIN(0 -)) 1)", "1", "001");
            due("ORDER(0 CHOICE(- CHOICE(1 2)) 3)", "03", "013", "023");
        });
    }

    private void rule6() {
        test("Its labels can be parted in BOTH: two labels are in the same part if one of them does not follow the "
                + "other one, or the other one does not follow it; and if they are so by way of others.", () -> {
            due("BOTH(0 1)", "01", "10");
            due("ORDER(0 1)", "01", "10*0");
            due("BOTH(ORDER(0 1) 2)", "012", "021", "201");
            due("BOTH(ORDER(1 0) 2)", "102", "120", "210");
            due("BOTH(CHOICE(0 1) 2)", "02", "20", "12", "21");
            due("ANY012", "0120", "02");
        });
        test("Then, as long as some part has no label that begins, or none that ends, the first such part (with the "
                + "smallest label) is joined with the first one of the others.", () -> {
            due("AGAIN(0 1)", "010");
            due("ANY01", "10", "010");
            due("ANY01", "01", "010");
            due("BOTH(ANY01 AGAIN(2 -))", "1021", "2012");
            due("BOTH(ANY02 AGAIN(1 -))", "0210", "1201");
            due("BOTH(ANY02 CHOICE(- AGAIN(1 -)))", "0210", "1201", "20");
            due("BOTH(BOTH(AGAIN(0 -) 2) CHOICE(- AGAIN(1 -)))", "0210", "1201", "02");
            due("BOTH(AGAIN(0 -) CHOICE(- AGAIN(1 -)) 2)", "0210", "1201", "02", "20");
            due("ANY012", "010212", "202");
            due("BOTH(BOTH(AGAIN(0 -) 3) 1 2 4 5 6 7)", "01726354", "12037465", "23140576", "034251607", "45362710",
                    "56473021", "67504132", "70615243");
        });
        test("If there are at least two parts: BOTH; the log of a part has all traces, each with its labels "
                + "alone.", () -> {
            due("BOTH(0 CHOICE(- 1))", "01", "10", "0");
            due("BOTH(AGAIN(0 -) AGAIN(1 -))", "0101", "10");
            due("BOTH(0 1 2)", "012", "021", "102", "120", "201", "210");
            due("BOTH(0 1 2 3 4 5 6 7)", "01726354", "12037465", "23140576", "34251607", "45362710", "56473021",
                    "67504132", "70615243");
        });
    }

    private void rule7() {
        test("Its labels can be parted in AGAIN: the first part has, at first, all labels that begin or end.", () -> {
            due("AGAIN(0 1)", "010");
            due("AGAIN(1 0)", "101");
            due("AGAIN(ORDER(0 1) 2)", "01201");
            due("AGAIN(ORDER(CHOICE(- 0) 1 CHOICE(- 2)) ORDER(3 4))", "01234012", "0123401", "12");
            due("ANY01", "01", "101");
            due("AGAIN(ORDER(CHOICE(- 0) CHOICE(- 1)) 2)", "021", "120", "01", "0");
        });
        test("The other labels are parted so that none follows a label of another one of these parts, as finely as can "
                + "be.", () -> {
            due("AGAIN(0 1 2)", "010", "020");
            due("AGAIN(0 ORDER(1 2))", "0120");
            due("AGAIN(0 ORDER(2 1))", "0210");
            due("AGAIN(0 ORDER(1 3) 2)", "0130", "020");
            due("AGAIN(0 1 2 3 4 5 6 7)", "070", "060", "050", "040", "030", "020", "010");
            due("AGAIN(0 ORDER(1 2 3 4 5 6 7))", "012345670");
        });
        test("Such a part is joined with the first part if one of its labels follows a label of the first part that "
                + "does not end, or if a label of the first part that does not begin follows one of its labels (labels "
                + "that begin or end are meant by all traces; those that came into the first part neither begin nor "
                + "end); this is done until there is no such part.", () -> {
            due("AGAIN(ORDER(0 1) 2)", "01201");
            due("ANY012", "01201", "0201");
            due("ANY012", "01201", "0121");
            due("AGAIN(ORDER(CHOICE(- 0) 1) 2)", "01201", "121");
            due("AGAIN(ORDER(0 CHOICE(- 1)) 2)", "01201", "020");
            due("AGAIN(ORDER(AGAIN(0 3) 1) 2)", "01201", "0301");
            due("AGAIN(ORDER(AGAIN(0 2) 1) 3)", "01301", "0201");
            due("AGAIN(ORDER(0 AGAIN(1 3)) 2)", "01201", "0131");
            due("AGAIN(ORDER(AGAIN(0 2) AGAIN(1 3)) 4)", "01401", "0201", "0131");
        });
        test("If other parts are left: AGAIN of the first part, then of the others.", () -> {
            due("AGAIN(3 1 2)", "32313");
            due("AGAIN(7 0 1 2 3 4 5 6)", "707", "717", "727", "737", "747", "757", "767");
            due("ANY01", "01", "101");
        });
    }

    private void rule7Pieces() {
        test("Each trace is cut, wherever a label of one part is followed by one of another part; the log of a part "
                + "has the pieces with its labels, each with the times of its trace.", () -> {
            due("AGAIN(0 1)", "010*99", "0");
            due("AGAIN(0 1)", "01010101010");
            due("AGAIN(AGAIN(0 -) 1)", "0010");
            due("AGAIN(AGAIN(0 -) 1)", "0100");
            due("AGAIN(0 AGAIN(1 -))", "0110");
            due("AGAIN(AGAIN(0 -) AGAIN(1 -))", "00110");
            due("AGAIN(0 1)", "010", "0110*0");
            due("AGAIN(ORDER(0 CHOICE(- 1)) 2)", "01201", "0120");
            due("AGAIN(0 ORDER(CHOICE(1 2) CHOICE(- 3)) 4)", "010", "0230", "040", "0130");
        });
    }

    private void rule8() {
        test("Otherwise: ANY of its labels.", () -> {
            due("ANY01", "01", "101");
            due("ANY67", "67", "767");
            due("ANY01234567", "012345670", "10");
            due("ANY0123", "0123012", "0213", "31*2");
            due("ORDER(0 CHOICE(- ANY12) 3)", "03", "01213", "0213");
            Check.due("the children of ANY", Logs.mined("01", "101").children(0), 0);
        });
    }

    private void partsAndPieces() {
        test("Parts are ordered by their smallest labels, where nothing else is said.", () -> {
            due("CHOICE(3 5 7)", "7", "3", "5");
            due("CHOICE(ORDER(0 7) 1 ORDER(2 6))", "26", "1", "07");
            due("CHOICE(ORDER(7 0) ORDER(6 1))", "61", "70");
            due("BOTH(1 2)", "21", "12");
            due("BOTH(ORDER(2 0) 1)", "201", "210", "120");
            due("AGAIN(3 1 2)", "32313");
            due("AGAIN(2 ORDER(3 0) 1)", "2302", "212");
        });
        test("Traces and pieces that are the same are not put together.", () -> {
            ProcessMiner x = Logs.mined("01", "01", "01*98", "01*0", "1*0");
            Check.due("traces", x.traceCount(), 5);
            Check.due("how often 1 follows 0", x.follows(0, 1), 100);
            Check.due("fitness", x.fitness(), 0.8);
            Check.due("traces after dropTrace", x.dropTrace() + x.dropTrace(), 4 + 3);
            Check.due("the times of the third", x.setTimes(2, 1), 98);
            due("ORDER(0 1)", many(10, "01"));
            due("AGAIN(0 1)", many(10, "010"));
        });
    }
}
