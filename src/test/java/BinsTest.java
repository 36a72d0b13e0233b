/** Promises 12 to 14: lose, regrade, set. */
public final class BinsTest {
    public static void main(String[] args) {
        loses();
        losesForLowerGrades();
        regrades();
        sets();
        Check.end();
    }

    private static void loses() {
        GrainReceipts x = new GrainReceipts();
        x.store(0, 1, 100);
        Check.due("bin -1", x.lose(-1, 1), Check.INVALID);
        Check.due("bin 5", x.lose(5, 1), Check.INVALID);
        Check.due("amount 0", x.lose(2, 0), Check.INVALID);
        Check.due("empty bin", x.lose(3, 1), Check.NOT_POSSIBLE);
        Check.due("not covered", x.lose(2, 5), Check.NOT_POSSIBLE);
        Check.due("as far as covered", x.lose(2, 4), 96);
        Check.due("no more", x.lose(2, 1), Check.NOT_POSSIBLE);
        Check.due("lost", x.count(7), 4);
        x.deliver(0);
        Check.due("nothing in it", x.binOf(2, 1), 0);
        x.set(3, 0);
        x.store(0, 1, 50);
        x.set(3, 20);
        x.store(0, 0, 100);
        Check.due("covered by better grain, not enough", x.lose(2, 21), Check.NOT_POSSIBLE);
        Check.due("more than it has", x.lose(2, Integer.MAX_VALUE), Check.NOT_POSSIBLE);
        Check.due("covered by better grain", x.lose(2, 20), 30);
        Check.due("lost in all", x.count(7), 24);
    }

    private static void losesForLowerGrades() {
        GrainReceipts x = new GrainReceipts();
        x.set(3, 20);
        x.store(0, 0, 100);
        x.set(3, 0);
        x.store(0, 2, 100);
        Check.due("surplus of grade 0", x.gradeOf(0, 3), 20);
        x.lose(4, 15);
        Check.due("grade 2 needs better grain", x.binOf(0, 2), 5);
        Check.due("too much", x.lose(0, 6), Check.NOT_POSSIBLE);
        Check.due("just enough", x.lose(0, 5), 95);
    }

    private static void regrades() {
        GrainReceipts x = new GrainReceipts();
        Check.due("bin -1", x.regrade(-1, 0), Check.INVALID);
        Check.due("bin 5", x.regrade(5, 0), Check.INVALID);
        Check.due("grade -1", x.regrade(0, -1), Check.INVALID);
        Check.due("grade 3", x.regrade(0, 3), Check.INVALID);
        Check.due("an empty one gets better", x.regrade(4, 0), 2);
        Check.due("an empty one gets worse", x.regrade(4, 2), 0);
        x.store(0, 0, 2000);
        x.store(0, 0, 50);
        x.store(0, 2, 30);
        Check.due("a filled one not", x.regrade(4, 1), Check.NOT_POSSIBLE);
        Check.due("the same", x.regrade(4, 2), 2);
        Check.due("the same is a change", x.count(8), 4);
        Check.due("receipts of grade 0", x.gradeOf(0, 2), 1968);
        Check.due("only 2000 stay", x.regrade(1, 2), 0);
        Check.due("grade now", x.binOf(1, 0), 2);
        Check.due("not covered", x.regrade(0, 1), Check.NOT_POSSIBLE);
        Check.due("not covered by far", x.regrade(0, 2), Check.NOT_POSSIBLE);
        Check.due("unchanged", x.binOf(0, 0), 0);
        GrainReceipts z = new GrainReceipts();
        z.store(0, 2, 1);
        Check.due("not with 1 in it", z.regrade(4, 1), Check.NOT_POSSIBLE);
        z.deliver(0);
        Check.due("with 0 in it", z.regrade(4, 1), 2);
        GrainReceipts y = new GrainReceipts();
        y.set(3, 0);
        y.store(0, 0, 100);
        y.store(0, 1, 100);
        y.hand(0, 1);
        Check.due("grade 1 not covered", y.regrade(2, 2), Check.NOT_POSSIBLE);
        y.deliver(0);
        Check.due("grade 1 is covered alone", y.regrade(2, 1), 1);
        y.deliver(1);
        Check.due("to the lowest", y.regrade(2, 2), 1);
    }

    private static void sets() {
        GrainReceipts x = new GrainReceipts();
        int[] least = {10, 10, 1, 0};
        int[] greatest = {100, 150, 30, 20};
        int[] first = {70, 90, 3, 4};
        for (int what = 0; what < 4; what++) {
            Check.due("below " + what, x.set(what, least[what] - 1), Check.INVALID);
            Check.due("above " + what, x.set(what, greatest[what] + 1), Check.INVALID);
            Check.due("least " + what, x.set(what, least[what]), first[what]);
            Check.due("greatest " + what, x.set(what, greatest[what]), least[what]);
            Check.due("now " + what, x.count(20 + what), greatest[what]);
        }
        Check.due("what -1", x.set(-1, 10), Check.INVALID);
        Check.due("what 4", x.set(4, 10), Check.INVALID);
        x.store(0, 0, 99);
        Check.due("cut of 20", x.receiptOf(0, 2), 80);
        Check.due("loan of 100", x.receiptOf(0, 7), 800);
    }
}
