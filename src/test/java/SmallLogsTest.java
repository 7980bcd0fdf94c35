import java.util.ArrayList;
import java.util.List;

/** All small logs of some kinds, so that no corner of the rules hangs on what a random run happens to meet. */
final class SmallLogsTest {
    private SmallLogsTest() {
    }

    public static void main(String[] args) {
        threeTraces(sequences(3, 3));
        twoTraces(sequences(2, 6));
        twoTraces(sequences(4, 3));
        oneTrace(sequences(4, 7));
        Check.finish("SmallLogsTest");
    }

    /** All sequences of at most so many of the first labels. */
    private static List<String> sequences(int labels, int length) {
        List<String> all = new ArrayList<>(List.of(""));
        for (int at = 0; all.get(at).length() < length; at++) {
            for (int label = 0; label < labels; label++) {
                all.add(all.get(at) + label);
            }
        }
        return all;
    }

    private static void threeTraces(List<String> all) {
        for (int i = 0; i < all.size(); i++) {
            for (int j = i; j < all.size(); j++) {
                for (int k = j; k < all.size(); k++) {
                    dueAsReference(all.get(i), all.get(j), all.get(k));
                }
            }
        }
    }

    private static void twoTraces(List<String> all) {
        for (int i = 0; i < all.size(); i++) {
            for (int j = i; j < all.size(); j++) {
                dueAsReference(all.get(i), all.get(j));
            }
        }
    }

    private static void oneTrace(List<String> all) {
        for (String trace : all) {
            dueAsReference(trace);
        }
    }

    // The digest has the kinds, sets and numbers of children of all nodes; so these need not be asked one by one.
    private static void dueAsReference(String... traces) {
        Check.about(String.join(", ", traces));
        ProcessMiner x = Logs.log(traces);
        Reference y = new Reference();
        for (String trace : traces) {
            trace.chars().forEach(c -> y.event(c - '0'));
            y.endTrace(1);
        }
        Check.due("mine()", x.mine(), y.mine());
        Check.due("digest()", x.digest(), y.digest());
        Check.due("height()", x.height(), y.height());
        Check.due("shortest(0)", x.shortest(0), y.shortest(0));
        Check.due("fitness()", x.fitness(), y.fitness());
        Check.due("words(2)", x.words(2), y.words(2));
    }
}
