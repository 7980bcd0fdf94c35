/** The rules of mining in their order, each with trees that were found by hand, and the words of these. */
final class MiningTest {
    private MiningTest() {
    }

    public static void main(String[] args) {
        rule1Nothing();
        rule2EmptyTraces();
        rule3OneLabel();
        rule4Choice();
        rule5Order();
        rule6Both();
        rule7Again();
        rule8Any();
        wordsOfTrees();
        deepTrees();
        Check.finish("MiningTest");
    }

    private static void due(String tree, String... traces) {
        Check.due("tree of " + String.join(", ", traces), Logs.tree(traces), tree);
    }

    private static void rule1Nothing() {
        due("-");
        due("-", "");
        due("-", "", "*5");
        due("-", "0*0", "12*0");
        due("-", "", "0*0");
    }

    private static void rule2EmptyTraces() {
        due("CHOICE(- 0)", "", "0");
        due("CHOICE(- 7)", "7", "", "*3");
        due("0", "*0", "0");
        due("CHOICE(- CHOICE(0 1))", "0", "1", "");
        due("CHOICE(- ORDER(1 0))", "10", "");
    }

    private static void rule3OneLabel() {
        due("4", "4");
        due("4", "4*99", "4", "44*0");
        due("AGAIN(4 -)", "44");
        due("AGAIN(4 -)", "4", "444");
        due("CHOICE(- AGAIN(4 -))", "", "4", "44");
    }

    private static void rule4Choice() {
        due("CHOICE(3 5 7)", "7", "3", "5");
        due("CHOICE(ORDER(0 1) 2)", "2", "01");
        due("CHOICE(ORDER(0 2) ORDER(1 3))", "13", "02");
        due("CHOICE(ORDER(2 0) ORDER(3 1))", "31", "20");
        due("CHOICE(AGAIN(0 -) 1)", "00", "1", "0");
        due("CHOICE(ORDER(0 7) 1 ORDER(2 6))", "26", "1", "07");
    }

    private static void rule5Order() {
        due("ORDER(2 1 0)", "210");
        due("ORDER(0 CHOICE(- 1) 2)", "02", "012");
        due("ORDER(0 CHOICE(1 2) 3)", "013", "023");
        due("ORDER(0 CHOICE(BOTH(1 2) 4) 3)", "0123", "0213", "043");
        due("ORDER(3 CHOICE(ORDER(0 2) 1))", "302", "31");
        due("ORDER(CHOICE(- 0) CHOICE(- 1))", "0", "1", "01");
        due("ORDER(AGAIN(0 -) AGAIN(1 -))", "00111");
        due("ORDER(7 AGAIN(0 1) 6)", "70106");
        due("ORDER(7 6 5 4 3 2 1 0)", "76543210");
        due("ORDER(CHOICE(- 4) CHOICE(- 2) CHOICE(- 6) CHOICE(- 0))", "42", "26", "60");
    }

    private static void rule6Both() {
        due("BOTH(0 1)", "01", "10");
        due("BOTH(0 1 2)", "012", "021", "102", "120", "201", "210");
        due("BOTH(ORDER(0 1) 2)", "012", "021", "201");
        due("BOTH(AGAIN(0 -) AGAIN(1 -))", "0011", "1100");
        due("BOTH(CHOICE(- 0) 1)", "01", "10", "1");
        due("BOTH(ANY01 AGAIN(2 -))", "1021", "2012");
        due("BOTH(ANY02 AGAIN(1 -))", "0210", "1201");
        due("AGAIN(1 BOTH(CHOICE(- AGAIN(0 -)) 2))", "1020121");
    }

    private static void rule7Again() {
        due("AGAIN(0 1)", "010");
        due("AGAIN(1 0)", "101", "1");
        due("AGAIN(0 1 2)", "010", "0", "020");
        due("AGAIN(3 1 2)", "32313");
        due("AGAIN(0 ORDER(1 2))", "0120");
        due("AGAIN(0 ORDER(1 3) 2)", "0130", "020");
        due("AGAIN(0 ORDER(CHOICE(- 1) CHOICE(- 3) CHOICE(- 2)))", "0130", "020", "01320");
        due("AGAIN(ORDER(0 1) 2)", "01201");
        due("AGAIN(ORDER(0 1 2) 3)", "0123012");
        due("AGAIN(ORDER(CHOICE(- 0) CHOICE(- 1)) 2)", "021", "120", "01", "0");
        due("AGAIN(AGAIN(0 -) AGAIN(1 -))", "00110");
        due("ANY012", "0", "012012");
        due("ANY012", "2", "012012");
    }

    private static void rule8Any() {
        due("ANY0123", "0123012", "0213", "31*2");
        due("ORDER(0 CHOICE(- ANY12) 3)", "03", "01213", "0213");
        due("ANY01", "01", "101");
    }

    private static void dueOfWords(ProcessMiner miner, boolean want, String... words) {
        String tree = Logs.tree(miner, 0);
        for (String word : words) {
            Check.due("'" + word + "' is a word of " + tree, Logs.isWord(miner, word), want);
        }
    }

    private static void wordsOfTrees() {
        dueOfWords(Logs.mined("", "00"), true, "", "0", "00", "000000000000");
        dueOfWords(Logs.mined("", "00"), false, "1", "01", "000000000001");
        dueOfWords(Logs.mined("02", "012"), true, "02", "012");
        dueOfWords(Logs.mined("02", "012"), false, "", "0", "2", "0112", "20", "021", "0122", "003");
        dueOfWords(Logs.mined("012", "021", "201"), true, "012", "021", "201");
        dueOfWords(Logs.mined("012", "021", "201"), false, "", "01", "102", "210", "0121", "2012");
        dueOfWords(Logs.mined("010", "020"), true, "0", "010", "020", "01020", "02020201010");
        dueOfWords(Logs.mined("010", "020"), false, "", "1", "00", "01", "10", "0110", "0120", "101");
        dueOfWords(Logs.mined("021", "120", "01", "0"), true, "", "2", "22", "120", "012201", "2202");
        dueOfWords(Logs.mined("021", "120", "01", "0"), false, "10", "11", "2102", "0012", "3");
        dueOfWords(Logs.mined("01", "101"), true, "", "0", "1", "10101011");
        dueOfWords(Logs.mined("01", "101"), false, "2", "012");
        dueOfWords(Logs.mined("13", "02"), false, "", "0213", "03", "1302", "12");
    }

    // Both in one: a loop whose two runs are mixed with another label of its own.
    private static void deepTrees() {
        ProcessMiner mixed = Logs.mined("0103", "3010", "0130", "0310");
        Check.due("tree of a mixed loop", Logs.tree(mixed, 0), "BOTH(AGAIN(0 1) 3)");
        dueOfWords(mixed, true, "03", "30", "01031010", "301010");
        dueOfWords(mixed, false, "0", "3", "0033", "0310103", "0031", "13", "0130103");
        ProcessMiner tail = Logs.mined("001", "0012");
        Check.due("tree with an optional end", Logs.tree(tail, 0), "ORDER(AGAIN(0 -) 1 CHOICE(- 2))");
        dueOfWords(tail, true, "01", "000000000001", "000000000012");
        dueOfWords(tail, false, "000000000000", "000000000002", "000000000010", "100000000000");
        ProcessMiner tall = Logs.mined("", "0", "01", "012", "0123", "01234", "012345", "0123456", "01234567", "7");
        Check.due("nodes of optional steps", tall.mine(), 27);
        Check.due("words of optional steps", tall.words(3), 56);
    }
}
