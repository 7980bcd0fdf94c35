import java.util.ArrayList;
import java.util.List;
import java.util.Random;

/** Long runs of calls, right and wrong ones, each answered by the program and by the reference. */
final class RandomRunsTest {
    private static final int RUNS = 3000;
    // What an object answers behind its 512th call is free; a step makes at most 8 calls, each with a digest.
    private static final int CALLS = 512;
    private static final int OF_A_STEP = 16;
    private static final long SEED = 20261119L;

    private final Random random;
    private final ProcessMiner miner = new ProcessMiner();
    private final Reference reference = new Reference();
    private final List<String> calls = new ArrayList<>();
    // Words of a made-up process come out as traces, so that trees are deep and of all kinds.
    private final List<Integer> waiting = new ArrayList<>();
    private final Process process;
    private final int maxLength;

    private interface Call {
        Object answer();
    }

    private RandomRunsTest(long seed) {
        random = new Random(seed);
        int labels = 1 + random.nextInt(8);
        List<Integer> all = new ArrayList<>(List.of(0, 1, 2, 3, 4, 5, 6, 7));
        java.util.Collections.shuffle(all, random);
        process = new Process(random, all.subList(0, labels), 0);
        maxLength = random.nextInt(4) == 0 ? 12 : 8;
    }

    public static void main(String[] args) {
        int[] kinds = new int[7];
        for (int run = 0; run < RUNS; run++) {
            RandomRunsTest test = new RandomRunsTest(SEED + run);
            boolean isSame = test.play();
            Check.due("run " + run, isSame, true);
            for (int k = 0; k < kinds.length; k++) {
                kinds[k] += test.reference.seenKinds[k];
            }
        }
        for (int k = 0; k < kinds.length; k++) {
            Check.due("kind " + k + " was seen often", kinds[k] > 1000, true);
        }
        Check.finish("RandomRunsTest, nodes seen by kind: " + java.util.Arrays.toString(kinds));
    }

    private boolean play() {
        while (2 * calls.size() + OF_A_STEP <= CALLS) {
            if (!step()) {
                return false;
            }
        }
        return true;
    }

    private boolean step() {
        int dice = random.nextInt(100);
        if (dice < 62) {
            return fill();
        }
        if (dice < 66 && !reopen()) {
            return false;
        }
        return ask(random.nextInt(20));
    }

    private boolean fill() {
        if (waiting.isEmpty()) {
            List<Integer> word = new ArrayList<>();
            if (random.nextInt(6) == 0) {
                for (int i = random.nextInt(maxLength); i > 0; i--) {
                    word.add(random.nextInt(8));
                }
            } else {
                process.spell(word);
            }
            waiting.addAll(word.subList(0, Math.min(maxLength, word.size())));
            waiting.add(-1);
        }
        int next = waiting.remove(0);
        if (next >= 0) {
            return same("event(" + next + ")", () -> miner.event(next), () -> reference.event(next));
        }
        int times = random.nextInt(8) == 0 ? random.nextInt(103) - 2 : random.nextInt(5);
        return same("endTrace(" + times + ")", () -> miner.endTrace(times), () -> reference.endTrace(times))
                && same("mine()", miner::mine, reference::mine);
    }

    private boolean reopen() {
        for (int i = random.nextInt(6); i > 0; i--) {
            if (!same("dropTrace()", miner::dropTrace, reference::dropTrace)) {
                return false;
            }
        }
        return same("mine()", miner::mine, reference::mine);
    }

    private boolean ask(int which) {
        int a = random.nextInt(10) - 1;
        int b = random.nextInt(10) - 1;
        int trace = random.nextInt(13) - 1;
        int place = random.nextInt(15) - 1;
        int node = random.nextInt(8) == 0 ? random.nextInt(70) - 2 : random.nextInt(6);
        int index = random.nextInt(6) - 1;
        int times = random.nextInt(4) == 0 ? random.nextInt(104) - 2 : random.nextInt(3);
        int count = random.nextInt(7) - 1;
        boolean isEnd = random.nextBoolean();
        switch (which) {
            case 0: return same("event " + a, () -> miner.event(a), () -> reference.event(a));
            case 1: return same("setTimes " + trace + " " + times, () -> miner.setTimes(trace, times),
                    () -> reference.setTimes(trace, times));
            case 2: return same("dropTrace", miner::dropTrace, reference::dropTrace);
            case 3: return same("traceCount", miner::traceCount, reference::traceCount)
                    && same("length " + trace, () -> miner.length(trace), () -> reference.length(trace));
            case 4: return same("labelAt " + trace + " " + place, () -> miner.labelAt(trace, place),
                    () -> reference.labelAt(trace, place));
            case 5: return same("labels", miner::labels, reference::labels)
                    && same("variants", miner::variants, reference::variants);
            case 6: return same("follows " + a + b, () -> miner.follows(a, b), () -> reference.follows(a, b));
            case 7: return same("edges " + isEnd, () -> miner.edges(isEnd), () -> reference.edges(isEnd));
            case 8: return same("relation " + a + b, () -> miner.relation(a, b), () -> reference.relation(a, b));
            case 9: return same("leads " + a + b, () -> miner.leads(a, b), () -> reference.leads(a, b));
            case 10: return same("mine", miner::mine, reference::mine);
            case 11: return same("kind " + node, () -> miner.kind(node), () -> reference.kind(node))
                    && same("labelsOf " + node, () -> miner.labelsOf(node), () -> reference.labelsOf(node));
            case 12: return same("parent " + node, () -> miner.parent(node), () -> reference.parent(node))
                    && same("children " + node, () -> miner.children(node), () -> reference.children(node));
            case 13: return same("child " + node + " " + index, () -> miner.child(node, index),
                    () -> reference.child(node, index));
            case 14: return same("shortest " + node, () -> miner.shortest(node), () -> reference.shortest(node));
            case 15: return same("height", miner::height, reference::height);
            case 16: return same("accepts " + trace, () -> miner.accepts(trace), () -> reference.accepts(trace));
            case 17: return same("acceptsBuffer", miner::acceptsBuffer, reference::acceptsBuffer);
            case 18: return same("fitness", miner::fitness, reference::fitness);
            default: return same("words " + count, () -> miner.words(count), () -> reference.words(count));
        }
    }

    private boolean same(String what, Call ours, Call theirs) {
        calls.add(what);
        String got = tell(ours) + " digest " + miner.digest();
        String want = tell(theirs) + " digest " + reference.digest();
        if (got.equals(want)) {
            return true;
        }
        System.out.println(calls + " answered " + got + ", due is " + want);
        return false;
    }

    private static String tell(Call call) {
        try {
            return "" + call.answer();
        } catch (RuntimeException e) {
            return e.getClass().getName();
        }
    }

    /** A made-up tree of one or more labels that spells a word at random. */
    private static final class Process {
        private final Random random;
        private final int kind;
        private final int label;
        private final boolean isOptional;
        private final List<Process> parts = new ArrayList<>();

        Process(Random random, List<Integer> labels, int depth) {
            this.random = random;
            isOptional = random.nextInt(5) == 0;
            label = labels.get(0);
            kind = labels.size() == 1 ? random.nextInt(6) == 0 ? 6 : 1 : 2 + random.nextInt(4);
            int from = 0;
            while (labels.size() > 1 && from < labels.size()) {
                int most = labels.size() - Math.max(from, 1);
                int to = from + 1 + (most > 1 ? random.nextInt(Math.min(3, most)) : 0);
                parts.add(new Process(random, labels.subList(from, to), depth + 1));
                from = to;
            }
        }

        void spell(List<Integer> word) {
            if (isOptional && random.nextInt(3) == 0) {
                return;
            }
            switch (kind) {
                case 1:
                    word.add(label);
                    break;
                case 2:
                    parts.get(random.nextInt(parts.size())).spell(word);
                    break;
                case 3:
                    parts.forEach(p -> p.spell(word));
                    break;
                case 4:
                    mix(word);
                    break;
                case 5:
                    parts.get(0).spell(word);
                    for (int i = random.nextInt(3); i > 0; i--) {
                        parts.get(1 + random.nextInt(parts.size() - 1)).spell(word);
                        parts.get(0).spell(word);
                    }
                    break;
                default:
                    for (int i = 1 + random.nextInt(2); i > 0; i--) {
                        word.add(label);
                    }
            }
        }

        private void mix(List<Integer> word) {
            List<List<Integer>> words = new ArrayList<>();
            for (Process part : parts) {
                List<Integer> spelt = new ArrayList<>();
                part.spell(spelt);
                words.add(spelt);
            }
            words.removeIf(List::isEmpty);
            while (!words.isEmpty()) {
                List<Integer> from = words.get(random.nextInt(words.size()));
                word.add(from.remove(0));
                words.removeIf(List::isEmpty);
            }
        }
    }
}
