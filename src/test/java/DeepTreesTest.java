/** Logs whose trees are the deepest and have the most nodes that a long search found; the reference mines them too. */
final class DeepTreesTest {
    private static final String[][] LOGS = {
        {"050445011035", "044415217762", "57476402270", "", "60214203742", "424453252253", "3024640", "316642054",
            "251241345451", "02213465642"},
        {"30323556727", "01637204366", "652702066227", "52750225122", "10431004660", "", "211137722042", "0416770006",
            "150644561621", "041640070261"},
        {"60600655605", "641163715070", "640641510702", "602351735231", "", "5147212312", "41172351756", "1700750152",
            "675615057", "755336536047"},
        {"25245266271", "3442070751", "561655633463", "", "515262", "72456246626", "7566633467", "67627761616",
            "50602262657", "060261225665"},
        {"141664264411", "753515643732", "152520603251", "004032426447", "3", "200747033311", "", "06330244240",
            "46430551664", "71362323432"}};
    private static final int[] HEIGHTS = {16, 16, 16, 16, 14};

    private DeepTreesTest() {
    }

    public static void main(String[] args) {
        for (int i = 0; i < LOGS.length; i++) {
            Check.about("log " + i);
            dueAsReference(LOGS[i], HEIGHTS[i]);
        }
        Check.finish("DeepTreesTest");
    }

    private static void due(String what, Object got, Object want) {
        Check.due(what, got, want);
    }

    // With its events the object is asked for less than 512 calls.
    private static void dueAsReference(String[] traces, int height) {
        ProcessMiner x = Logs.log(traces);
        Reference y = new Reference();
        for (String trace : traces) {
            trace.chars().forEach(c -> y.event(c - '0'));
            y.endTrace(1);
        }
        due("nodes, as the search told", x.mine(), 57);
        y.mine();
        due("height, as the search told", x.height(), height);
        due("height", x.height(), y.height());
        due("digest", x.digest(), y.digest());
        for (int node = 0; node < 57; node++) {
            dueNode(x, y, node);
        }
        for (int length = 0; length < 4; length++) {
            due("words(" + length + ")", x.words(length), y.words(length));
        }
        due("fitness", x.fitness(), y.fitness());
        for (int t = 0; t < traces.length; t++) {
            due("accepts(" + t + ")", x.accepts(t), y.accepts(t));
        }
    }

    private static void dueNode(ProcessMiner x, Reference y, int node) {
        due("kind(" + node + ")", x.kind(node), y.kind(node));
        due("labelsOf(" + node + ")", x.labelsOf(node), y.labelsOf(node));
        due("parent(" + node + ")", x.parent(node), y.parent(node));
        due("shortest(" + node + ")", x.shortest(node), y.shortest(node));
        due("children(" + node + ")", x.children(node), y.children(node));
        for (int i = 0; i < y.children(node); i++) {
            due("child(" + node + ", " + i + ")", x.child(node, i), y.child(node, i));
        }
    }
}
