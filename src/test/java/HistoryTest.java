/** Promises 21 to 23: fallTo, count, undo. */
public final class HistoryTest {
    public static void main(String[] args) {
        falls();
        counts();
        undoes();
        everyChangeIsKept();
        errorsAreNotKept();
        Check.end();
    }

    private static void falls() {
        GrainReceipts x = Check.withReceipt();
        Check.due("lender -1", x.fallTo(-1), Check.INVALID);
        Check.due("lender 3", x.fallTo(3), Check.INVALID);
        Check.due("no pledge", x.fallTo(0), Check.NOT_FOUND);
        x.store(0, 0, 10);
        x.pledge(0, 0, 450);
        Check.due("at 5 it is just not above", x.fallTo(0), 4);
        x.pledge(1, 0, 70);
        Check.due("the greatest of two", x.fallTo(0), 7);
        Check.due("another lender", x.fallTo(1), Check.NOT_FOUND);
        x.price(2, 7);
        x.call(0);
        Check.due("not the one that is called", x.fallTo(0), 4);
        x.price(2, 3);
        Check.due("above the price now", x.fallTo(0), 4);
        x.call(0);
        Check.due("all are called", x.fallTo(0), Check.NOT_FOUND);
        GrainReceipts y = Check.withReceipt();
        y.pledge(0, 0, 90);
        Check.due("not even at 1", y.fallTo(0), Check.NOT_FOUND);
        y.undo();
        y.pledge(0, 0, 91);
        Check.due("at 1", y.fallTo(0), 1);
        y.set(1, 10);
        Check.due("at 10 it is 100", y.fallTo(0), 9);
        y.undo();
        y.undo();
        y.price(2, 99);
        y.set(0, 100);
        y.pledge(0, 0, 9900);
        Check.due("99", y.fallTo(0), 99);
    }

    private static void counts() {
        GrainReceipts x = new GrainReceipts();
        x.store(0, 0, 100);
        x.store(0, 2, 100);
        x.split(0, 6);
        x.deliver(2);
        x.lose(4, 1);
        x.pass(7);
        Check.typeText(x, "c0");
        int[] want = {2, 186, 193, 7, 3, 0, 6, 1, 4, 2};
        for (int what = 0; what < want.length; what++) {
            Check.due("count " + what, x.count(what), want[what]);
        }
        int[] wrong = {-1, 10, 19, 24, Integer.MAX_VALUE, Integer.MIN_VALUE};
        for (int what : wrong) {
            Check.due("count " + what, x.count(what), Check.INVALID);
        }
        for (int what = 10; what < 20; what++) {
            Check.due("count " + what, x.count(what), Check.INVALID);
        }
    }

    private static void undoes() {
        GrainReceipts x = new GrainReceipts();
        Check.due("empty", x.undo(), Check.NOT_POSSIBLE);
        for (int price = 11; price < 17; price++) {
            x.price(2, price);
        }
        Check.due("at most 4", x.count(8), 4);
        Check.typeText(x, "ab");
        for (int left = 3; left >= 0; left--) {
            Check.due("undo", x.undo(), left);
            Check.due("price", x.gradeOf(2, 0), 12 + left);
        }
        Check.due("empty again", x.undo(), Check.NOT_POSSIBLE);
        Check.due("the oldest are dropped", x.gradeOf(2, 0), 12);
        Check.due("the text stays", x.count(9), 2);
        Check.due("a change", x.price(2, 50), 12);
        Check.due("one state", x.count(8), 1);
        Check.due("undo it", x.undo(), 0);
        Check.due("price", x.gradeOf(2, 0), 12);
    }

    private static void everyChangeIsKept() {
        String[] names = {"store", "split", "join", "hand", "pledge", "repay", "price", "call",
            "deliver", "lose", "regrade", "pass", "set", "play"};
        for (int i = 0; i < names.length; i++) {
            GrainReceipts x = busy();
            x.set(2, 17);
            int[] before = seen(x);
            Check.due(names[i] + " goes", change(x, i) >= 0 ? 1 : 0, 1);
            Check.due(names[i] + " is kept", x.count(8), 4);
            Check.due(names[i] + " undone", x.undo(), 3);
            int[] behind = seen(x);
            for (int k = 0; k < before.length; k++) {
                Check.due(names[i] + " leaves " + k, behind[k], before[k]);
            }
            Check.due("undo of set", x.undo(), 2);
            Check.due("the setting before", x.count(22), 5);
        }
    }

    /** Nothing in it is as it is at first: 0 is plain, 1 like it, 2 pledged, 3 seized, 4 called, and 5 delivered. */
    private static GrainReceipts busy() {
        GrainReceipts x = new GrainReceipts();
        int[] settings = {60, 80, 5, 7};
        for (int what = 0; what < 4; what++) {
            x.set(what, settings[what]);
        }
        for (int i = 0; i < 6; i++) {
            Check.due("store", x.store(i == 3 ? 3 : 0, i == 5 ? 2 : 0, 100), i);
        }
        x.price(0, 33);
        x.price(1, 22);
        x.pledge(3, 1, 500);
        x.price(2, 6);
        x.call(1);
        x.pass(5);
        x.deliver(5);
        x.lose(4, 3);
        x.pledge(2, 0, 300);
        x.pledge(4, 2, 300);
        x.price(2, 4);
        x.call(2);
        x.regrade(1, 2);
        Check.due("seized", x.count(5), 1);
        Check.due("called", x.receiptOf(4, 6), 5);
        return x;
    }

    private static int change(GrainReceipts x, int which) {
        switch (which) {
            case 0: return x.store(1, 2, 30);
            case 1: return x.split(4, 3);
            case 2: return x.join(1, 0);
            case 3: return x.hand(0, 6);
            case 4: return x.pledge(0, 1, 20);
            case 5: return x.repay(4, 300);
            case 6: return x.price(1, 77);
            case 7: return x.call(0);
            case 8: return x.deliver(0);
            case 9: return x.lose(0, 1);
            case 10: return x.regrade(3, 2);
            case 11: return x.pass(9);
            case 12: return x.set(1, 55);
            default: return x.play();
        }
    }

    private static int[] seen(GrainReceipts x) {
        int[] seen = new int[110];
        int n = 0;
        for (int what = 0; what < 10; what++) {
            // The number of states may be less, as the oldest one may have been dropped.
            seen[n++] = what == 8 ? 0 : x.count(what);
            for (int receipt = 0; receipt < 7; receipt++) {
                seen[n++] = x.receiptOf(receipt, what);
            }
        }
        for (int bin = 0; bin < 5; bin++) {
            seen[n++] = x.binOf(bin, 0);
            seen[n++] = x.binOf(bin, 1);
        }
        for (int i = 0; i < 3; i++) {
            seen[n++] = x.gradeOf(i, 0);
            seen[n++] = x.lenderOf(i, 4);
        }
        for (int owner = 0; owner < 8; owner++) {
            seen[n++] = x.ownerOf(owner, 0);
        }
        for (int what = 20; what < 24; what++) {
            seen[n++] = x.count(what);
        }
        return seen;
    }

    private static void errorsAreNotKept() {
        GrainReceipts x = Check.withReceipt();
        int kept = x.count(8);
        x.store(9, 0, 1);
        x.store(0, 2, 2001);
        x.split(0, 100);
        x.join(0, 0);
        x.hand(0, 0);
        x.deliver(5);
        x.pledge(0, 0, 999999);
        x.repay(0, 1);
        x.price(0, 0);
        x.call(3);
        x.pass(0);
        x.lose(0, 1);
        x.regrade(0, 1);
        x.set(0, 0);
        Check.typeText(x, "x");
        x.play();
        x.fault(0);
        x.fallTo(0);
        Check.due("nothing is kept", x.count(8), kept);
        Check.due("nothing is made", x.count(4), 1);
    }
}
