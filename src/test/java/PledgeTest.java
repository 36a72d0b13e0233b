/** Promises 7 to 11: pledge, repay, price, call, pass. */
public final class PledgeTest {
    public static void main(String[] args) {
        pledges();
        pledgeRefuses();
        repays();
        repayEndsCall();
        prices();
        calls();
        passes();
        seizes();
        passEndsCall();
        Check.end();
    }

    private static void pledges() {
        GrainReceipts x = Check.withReceipt();
        x.store(0, 0, 50);
        Check.due("above the share", x.pledge(0, 1, 701), Check.NOT_POSSIBLE);
        Check.due("the share", x.pledge(0, 1, 700), 700);
        Check.due("a second one", x.pledge(1, 2, 1), 701);
        Check.due("lender", x.receiptOf(0, 4), 1);
        Check.due("loan", x.receiptOf(0, 5), 700);
        Check.due("not called", x.receiptOf(0, 6), Check.NOT_FOUND);
        Check.due("the lender's own money stays", x.ownerOf(6, 0), 0);
        GrainReceipts y = new GrainReceipts();
        y.store(0, 0, 1);
        y.price(2, 3);
        Check.due("rounded down", y.pledge(0, 0, 3), Check.NOT_POSSIBLE);
        Check.due("2 of 2.1", y.pledge(0, 0, 2), 2);
        y.undo();
        y.price(2, 1);
        Check.due("nothing of 0.7", y.pledge(0, 0, 1), Check.NOT_POSSIBLE);
    }

    private static void pledgeRefuses() {
        GrainReceipts x = Check.withReceipt();
        Check.due("no receipt", x.pledge(1, 0, 1), Check.INVALID);
        Check.due("no receipt -1", x.pledge(-1, 0, 1), Check.INVALID);
        Check.due("lender -1", x.pledge(0, -1, 1), Check.INVALID);
        Check.due("lender 3", x.pledge(0, 3, 1), Check.INVALID);
        Check.due("loan 0", x.pledge(0, 0, 0), Check.INVALID);
        Check.due("too great", x.pledge(0, 0, Integer.MAX_VALUE), Check.NOT_POSSIBLE);
        x.pledge(0, 0, 1);
        Check.due("pledged", x.pledge(0, 1, 1), Check.NOT_POSSIBLE);
        x.repay(0, 1);
        x.hand(0, 6);
        Check.due("its own lender", x.pledge(0, 1, 1), Check.NOT_POSSIBLE);
        Check.due("another lender", x.pledge(0, 2, 1), 1);
        Check.due("money of the lender as an owner", x.ownerOf(6, 0), 1);
    }

    private static void repays() {
        GrainReceipts x = Check.withReceipt();
        Check.due("not pledged", x.repay(0, 1), Check.NOT_POSSIBLE);
        x.pledge(0, 0, 600);
        Check.due("no receipt", x.repay(1, 1), Check.INVALID);
        Check.due("amount 0", x.repay(0, 0), Check.INVALID);
        Check.due("too much", x.repay(0, 601), Check.NOT_POSSIBLE);
        Check.due("some", x.repay(0, 599), 1);
        Check.due("money", x.ownerOf(0, 0), 1);
        Check.due("still pledged", x.receiptOf(0, 4), 0);
        Check.due("the rest", x.repay(0, 1), 0);
        Check.due("not pledged any more", x.receiptOf(0, 4), Check.NOT_FOUND);
        Check.due("money 0", x.ownerOf(0, 0), 0);
        Check.due("no pledges", x.lenderOf(0, 0), 0);
        Check.due("can be handed", x.hand(0, 1), 0);
    }

    private static void repayEndsCall() {
        GrainReceipts x = Check.withReceipt();
        x.pledge(0, 0, 700);
        x.price(2, 5);
        Check.due("call", x.call(0), 1);
        Check.due("too little", x.repay(0, 249), 451);
        Check.due("still called", x.receiptOf(0, 6), 3);
        Check.due("just enough", x.repay(0, 1), 450);
        Check.due("over", x.receiptOf(0, 6), Check.NOT_FOUND);
        x.price(2, 4);
        Check.due("called again", x.call(0), 1);
        Check.due("all is paid", x.repay(0, 450), 0);
        Check.due("call is gone", x.receiptOf(0, 6), Check.NOT_FOUND);
        Check.due("none is called", x.lenderOf(0, 3), 0);
    }

    private static void prices() {
        GrainReceipts x = new GrainReceipts();
        Check.due("grade 0", x.price(0, 99), 30);
        Check.due("grade 1", x.price(1, 1), 20);
        Check.due("grade 2", x.price(2, 98), 10);
        Check.due("again", x.price(0, 5), 99);
        Check.due("now", x.gradeOf(0, 0), 5);
        Check.due("now 1", x.gradeOf(1, 0), 1);
        Check.due("now 2", x.gradeOf(2, 0), 98);
        Check.due("grade -1", x.price(-1, 1), Check.INVALID);
        Check.due("grade 3", x.price(3, 1), Check.INVALID);
        Check.due("price 0", x.price(0, 0), Check.INVALID);
        Check.due("price 100", x.price(0, 100), Check.INVALID);
    }

    private static void calls() {
        GrainReceipts x = Check.withReceipt();
        x.store(1, 1, 100);
        x.store(2, 2, 100);
        x.pledge(0, 0, 631);
        x.pledge(1, 0, 630);
        x.pledge(2, 1, 700);
        Check.due("lender -1", x.call(-1), Check.INVALID);
        Check.due("lender 3", x.call(3), Check.INVALID);
        Check.due("none above", x.call(0), 0);
        x.price(2, 7);
        Check.due("one above, one just not", x.call(0), 1);
        Check.due("days", x.receiptOf(0, 6), 3);
        Check.due("not called", x.receiptOf(1, 6), Check.NOT_FOUND);
        Check.due("of another lender", x.receiptOf(2, 6), Check.NOT_FOUND);
        x.set(2, 30);
        Check.due("not called twice", x.call(0), 0);
        Check.due("days stay", x.receiptOf(0, 6), 3);
        Check.due("the other lender", x.call(1), 1);
        Check.due("its days", x.receiptOf(2, 6), 30);
    }

    private static void passes() {
        GrainReceipts x = new GrainReceipts();
        Check.due("days 0", x.pass(0), Check.INVALID);
        Check.due("days 100", x.pass(100), Check.INVALID);
        Check.due("days -1", x.pass(-1), Check.INVALID);
        Check.due("no day", x.count(3), 0);
        Check.due("99", x.pass(99), 0);
        Check.due("1", x.pass(1), 0);
        Check.due("the day", x.count(3), 100);
    }

    private static void seizes() {
        GrainReceipts x = Check.withReceipt();
        x.store(1, 1, 100);
        x.pledge(0, 0, 700);
        x.pledge(1, 2, 700);
        x.price(2, 5);
        x.call(0);
        x.pass(1);
        x.call(2);
        Check.due("one day left", x.pass(1), 0);
        Check.due("days left", x.receiptOf(0, 6), 1);
        Check.due("both in these", x.pass(50), 2);
        Check.due("owner 5", x.receiptOf(0, 0), 5);
        Check.due("owner 7", x.receiptOf(1, 0), 7);
        Check.due("pledge is gone", x.receiptOf(0, 5), Check.NOT_FOUND);
        Check.due("call is gone", x.receiptOf(0, 6), Check.NOT_FOUND);
        Check.due("money stays", x.ownerOf(0, 0), 700);
        Check.due("seized loans", x.lenderOf(2, 4), 700);
        Check.due("none of lender 1", x.lenderOf(1, 4), 0);
        Check.due("seized", x.count(5), 2);
        Check.due("none in other days", x.pass(1), 0);
        Check.due("delivered to its new owner", x.deliver(0), 0);
    }

    private static void passEndsCall() {
        GrainReceipts x = Check.withReceipt();
        x.pledge(0, 0, 700);
        x.price(2, 5);
        x.call(0);
        x.price(2, 10);
        Check.due("a price alone ends no call", x.receiptOf(0, 6), 3);
        Check.due("nothing is to be paid", x.receiptOf(0, 8), 0);
        Check.due("a day", x.pass(1), 0);
        Check.due("over", x.receiptOf(0, 6), Check.NOT_FOUND);
        Check.due("still pledged", x.receiptOf(0, 5), 700);
        x.price(2, 5);
        Check.due("no call by itself", x.pass(99), 0);
        x.set(2, 1);
        x.call(0);
        x.set(1, 140);
        Check.due("saved on the last day", x.pass(1), 0);
        x.set(1, 139);
        x.call(0);
        Check.due("seized on the last day", x.pass(1), 1);
    }
}
