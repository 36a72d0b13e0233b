/** What the tests share: it counts the answers that are not the ones due, and prints them. */
final class Check {
    static final int INVALID = GrainReceipts.INVALID_ARGUMENT;
    static final int NOT_POSSIBLE = GrainReceipts.NOT_POSSIBLE;
    static final int LIMIT = GrainReceipts.LIMIT_REACHED;
    static final int NOT_FOUND = GrainReceipts.NOT_FOUND;

    private static int wrong = 0;
    private static int made = 0;

    private Check() {
    }

    static void due(String what, long got, long want) {
        made++;
        if (got != want) {
            wrong++;
            System.out.println(what + " answered " + got + ", due is " + want);
        }
    }

    static void typeText(GrainReceipts x, String text) {
        for (int i = 0; i < text.length(); i++) {
            int before = x.count(9);
            due("type of " + text.charAt(i), x.type(text.charAt(i)), before + 1);
        }
    }

    /** An object of which grade 0 has a receipt 0 of 100, without a cut. */
    static GrainReceipts withReceipt() {
        GrainReceipts x = new GrainReceipts();
        due("set", x.set(3, 0), 4);
        due("store", x.store(0, 0, 100), 0);
        return x;
    }

    static void end() {
        System.out.println(made + " checks, " + wrong + " wrong");
        if (wrong != 0) {
            System.exit(1);
        }
    }
}
