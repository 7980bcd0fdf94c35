/** Makes logs out of short texts and writes trees as texts. */
final class Logs {
    private static final String[] NAMES = {"NOTHING", "LABEL", "CHOICE", "ORDER", "BOTH", "AGAIN", "ANY"};

    private Logs() {
    }

    /** A miner with one trace a text: its labels as digits, then perhaps a star and the times. */
    static ProcessMiner log(String... traces) {
        ProcessMiner miner = new ProcessMiner();
        for (String trace : traces) {
            store(miner, trace);
        }
        return miner;
    }

    static ProcessMiner mined(String... traces) {
        ProcessMiner miner = log(traces);
        miner.mine();
        return miner;
    }

    static int store(ProcessMiner miner, String trace) {
        int star = trace.indexOf('*');
        type(miner, star < 0 ? trace : trace.substring(0, star));
        return miner.endTrace(star < 0 ? 1 : Integer.parseInt(trace.substring(star + 1)));
    }

    static void type(ProcessMiner miner, String labels) {
        for (char c : labels.toCharArray()) {
            miner.event(c - '0');
        }
    }

    /** Whether a sequence is a word: it takes the place of what is in the buffer, and the tree is mined anew. */
    static boolean isWord(ProcessMiner miner, String labels) {
        miner.endTrace(0);
        miner.dropTrace();
        miner.mine();
        type(miner, labels);
        return miner.acceptsBuffer();
    }

    /** LABELs as their digits, ANY with its labels, the others with their children in brackets. */
    static String tree(ProcessMiner miner, int node) {
        int kind = miner.kind(node);
        if (kind == 0) {
            return "-";
        }
        if (kind == 1 || kind == 6) {
            return (kind == 6 ? "ANY" : "") + digits(miner.labelsOf(node));
        }
        StringBuilder text = new StringBuilder(NAMES[kind]).append('(');
        for (int i = 0; i < miner.children(node); i++) {
            text.append(i == 0 ? "" : " ").append(tree(miner, miner.child(node, i)));
        }
        return text.append(')').toString();
    }

    static String tree(String... traces) {
        return tree(mined(traces), 0);
    }

    private static String digits(int set) {
        StringBuilder text = new StringBuilder();
        for (int k = 0; k < 32; k++) {
            if ((set >> k & 1) != 0) {
                text.append(k);
            }
        }
        return text.toString();
    }
}
