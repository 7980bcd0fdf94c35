/** Counts the answers of a test that are due and prints those that are not. */
final class Check {
    private static int passed = 0;
    private static int failed = 0;
    private static String subject = "";

    private Check() {
    }

    /** What the answers that follow are about; it is told with those that are not due. */
    static void about(String what) {
        subject = what.isEmpty() ? "" : what + ": ";
    }

    static void due(String what, Object got, Object want) {
        if (want.equals(got)) {
            passed++;
        } else {
            failed++;
            System.out.println(subject + what + " answered " + got + ", due is " + want);
        }
    }

    /** The call throws just this exception, and the object is as it was before. */
    static void thrown(ProcessMiner miner, String what, Class<? extends RuntimeException> want, Runnable call) {
        long digest = miner.digest();
        Object got = "nothing thrown";
        try {
            call.run();
        } catch (RuntimeException e) {
            got = e.getClass();
        }
        due(what, got, want);
        due(what + ", digest after it", miner.digest(), digest);
    }

    static void finish(String test) {
        System.out.println(test);
        System.out.println(passed + " passed, " + failed + " failed");
        if (failed != 0) {
            System.exit(1);
        }
    }
}
