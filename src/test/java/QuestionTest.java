/** Promises 15 to 20: receiptOf, receipt, binOf, gradeOf, ownerOf, lenderOf. */
public final class QuestionTest {
    public static void main(String[] args) {
        receipts();
        ratios();
        numbers();
        bins();
        grades();
        owners();
        lenders();
        Check.end();
    }

    private static void receipts() {
        GrainReceipts x = Check.withReceipt();
        x.store(3, 1, 7);
        Check.due("owner", x.receiptOf(1, 0), 3);
        Check.due("grade", x.receiptOf(1, 1), 1);
        Check.due("amount", x.receiptOf(1, 2), 7);
        Check.due("worth at the price of grade 2", x.receiptOf(1, 3), 70);
        Check.due("lender", x.receiptOf(1, 4), Check.NOT_FOUND);
        Check.due("loan", x.receiptOf(1, 5), Check.NOT_FOUND);
        Check.due("days", x.receiptOf(1, 6), Check.NOT_FOUND);
        Check.due("greatest loan", x.receiptOf(1, 7), 49);
        Check.due("nothing to pay", x.receiptOf(1, 8), 0);
        x.pledge(1, 2, 49);
        Check.due("lender 2", x.receiptOf(1, 4), 2);
        Check.due("loan 49", x.receiptOf(1, 5), 49);
        Check.due("greatest loan of a pledged one", x.receiptOf(1, 7), 49);
        x.price(2, 3);
        Check.due("to pay, not called", x.receiptOf(1, 8), 49 - 18);
        x.call(2);
        Check.due("to pay, called", x.receiptOf(1, 8), 31);
        Check.due("days 3", x.receiptOf(1, 6), 3);
        Check.due("no receipt", x.receiptOf(2, 0), Check.INVALID);
        Check.due("no receipt -1", x.receiptOf(-1, 0), Check.INVALID);
        Check.due("what -1", x.receiptOf(1, -1), Check.INVALID);
        Check.due("what 10", x.receiptOf(1, 10), Check.INVALID);
        Check.due("neither", x.receiptOf(2, 10), Check.INVALID);
    }

    private static void ratios() {
        GrainReceipts x = new GrainReceipts();
        x.set(3, 0);
        x.set(0, 100);
        x.price(2, 99);
        x.store(0, 0, 4000);
        Check.due("without", x.receiptOf(0, 9), 0);
        int[] loans = {1, 2, 3, 7, 1000, 123457, 198000, 395999, 396000};
        int[] prices = {1, 2, 3, 13, 49, 98, 99};
        for (int loan : loans) {
            Check.due("pledge", x.pledge(0, 0, loan), loan);
            for (int price : prices) {
                x.price(2, price);
                int want = Float.floatToIntBits((float) loan / (float) (4000 * price));
                Check.due("bits of " + loan + " at " + price, x.receiptOf(0, 9), want);
            }
            x.repay(0, loan);
        }
        x.split(0, 1);
        x.pledge(1, 0, 99);
        x.price(2, 1);
        Check.due("bits of 99 at a worth of 1", x.receiptOf(1, 9), Float.floatToIntBits(99f));
    }

    private static void numbers() {
        GrainReceipts x = Check.withReceipt();
        for (int i = 1; i < 5; i++) {
            x.store(0, 0, 10);
        }
        x.deliver(1);
        x.deliver(3);
        x.store(0, 0, 10);
        int[] left = {0, 2, 4, 5};
        for (int i = 0; i < left.length; i++) {
            Check.due("index " + i, x.receipt(i), left[i]);
        }
        Check.due("index 4", x.receipt(4), Check.NOT_FOUND);
        Check.due("greatest int", x.receipt(Integer.MAX_VALUE), Check.NOT_FOUND);
        Check.due("index -1", x.receipt(-1), Check.INVALID);
    }

    private static void bins() {
        GrainReceipts x = new GrainReceipts();
        x.store(0, 1, 2000);
        x.store(0, 1, 100);
        x.deliver(1);
        Check.due("grade", x.binOf(2, 0), 1);
        Check.due("amount", x.binOf(2, 1), 1904);
        Check.due("loss", x.binOf(2, 2), 84);
        Check.due("loss of the other, that has more", x.binOf(3, 2), 84);
        x.lose(2, 80);
        Check.due("loss left", x.binOf(3, 2), 4);
        Check.due("loss of an empty one", x.binOf(4, 2), 0);
        x.deliver(0);
        Check.due("loss of all it has", x.binOf(3, 2), 4);
        Check.due("bin -1", x.binOf(-1, 0), Check.INVALID);
        Check.due("bin 5", x.binOf(5, 0), Check.INVALID);
        Check.due("what -1", x.binOf(0, -1), Check.INVALID);
        Check.due("what 3", x.binOf(0, 3), Check.INVALID);
    }

    private static void grades() {
        GrainReceipts x = new GrainReceipts();
        x.store(0, 0, 100);
        x.store(0, 1, 200);
        x.store(0, 2, 300);
        x.store(0, 1, 50);
        int[] grain = {100, 250, 300};
        int[] receipts = {96, 240, 288};
        int[] surplus = {4, 14, 26};
        int[] room = {3900, 3750, 1700};
        for (int grade = 0; grade < 3; grade++) {
            Check.due("grain of " + grade, x.gradeOf(grade, 1), grain[grade]);
            Check.due("receipts of " + grade, x.gradeOf(grade, 2), receipts[grade]);
            Check.due("surplus of " + grade, x.gradeOf(grade, 3), surplus[grade]);
            Check.due("room of " + grade, x.gradeOf(grade, 4), room[grade]);
        }
        Check.due("grade -1", x.gradeOf(-1, 0), Check.INVALID);
        Check.due("grade 3", x.gradeOf(3, 0), Check.INVALID);
        Check.due("what -1", x.gradeOf(0, -1), Check.INVALID);
        Check.due("what 5", x.gradeOf(0, 5), Check.INVALID);
    }

    private static void owners() {
        GrainReceipts x = Check.withReceipt();
        x.store(0, 1, 10);
        x.store(0, 2, 1);
        x.store(1, 2, 9);
        x.pledge(0, 0, 500);
        x.pledge(1, 1, 60);
        x.repay(0, 20);
        Check.due("money", x.ownerOf(0, 0), 540);
        Check.due("receipts", x.ownerOf(0, 1), 3);
        Check.due("amounts", x.ownerOf(0, 2), 111);
        Check.due("loans", x.ownerOf(0, 3), 540);
        Check.due("net worth", x.ownerOf(0, 4), 540 + 3000 + 200 + 10 - 540);
        Check.due("net worth of 1", x.ownerOf(1, 4), 90);
        x.price(2, 1);
        x.call(0);
        x.pass(3);
        Check.due("net worth without what was seized", x.ownerOf(0, 4), 540 + 200 + 1 - 60);
        Check.due("net worth of the lender", x.ownerOf(5, 4), 3000);
        Check.due("receipts of the lender", x.ownerOf(5, 1), 1);
        Check.due("loans of the lender", x.ownerOf(5, 3), 0);
        Check.due("nothing", x.ownerOf(4, 1), 0);
        Check.due("owner -1", x.ownerOf(-1, 0), Check.INVALID);
        Check.due("owner 8", x.ownerOf(8, 0), Check.INVALID);
        Check.due("what -1", x.ownerOf(0, -1), Check.INVALID);
        Check.due("what 5", x.ownerOf(0, 5), Check.INVALID);
    }

    private static void lenders() {
        GrainReceipts x = Check.withReceipt();
        x.store(0, 0, 100);
        x.store(0, 0, 50);
        x.pledge(0, 1, 700);
        x.pledge(1, 1, 300);
        x.pledge(2, 0, 1);
        Check.due("pledges", x.lenderOf(1, 0), 2);
        Check.due("loans", x.lenderOf(1, 1), 1000);
        Check.due("worths", x.lenderOf(1, 2), 2000);
        Check.due("called", x.lenderOf(1, 3), 0);
        Check.due("seized", x.lenderOf(1, 4), 0);
        Check.due("would be called", x.lenderOf(1, 5), 0);
        x.price(2, 5);
        Check.due("would be called now", x.lenderOf(1, 5), 1);
        x.call(1);
        Check.due("called now", x.lenderOf(1, 3), 1);
        Check.due("no more", x.lenderOf(1, 5), 0);
        Check.due("worths now", x.lenderOf(1, 2), 1000);
        x.pass(3);
        Check.due("pledges left", x.lenderOf(1, 0), 1);
        Check.due("loans left", x.lenderOf(1, 1), 300);
        Check.due("seized now", x.lenderOf(1, 4), 700);
        x.pledge(0, 2, 350);
        x.price(2, 3);
        x.call(2);
        x.pass(3);
        Check.due("seized by another", x.lenderOf(2, 4), 350);
        Check.due("seized stays", x.lenderOf(1, 4), 700);
        Check.due("lender -1", x.lenderOf(-1, 0), Check.INVALID);
        Check.due("lender 3", x.lenderOf(3, 0), Check.INVALID);
        Check.due("what -1", x.lenderOf(0, -1), Check.INVALID);
        Check.due("what 6", x.lenderOf(0, 6), Check.INVALID);
    }
}
