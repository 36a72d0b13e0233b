/** Promises 1 to 6: a new object, store, split, join, hand, deliver. */
public final class GrainTest {
    public static void main(String[] args) {
        newObject();
        storeFills();
        storeRefuses();
        storeBehindRegrade();
        splitShares();
        splitBeyondAnInt();
        splitLeavesCall();
        splitRefuses();
        joins();
        joinRefuses();
        hands();
        delivers();
        deliversThroughGrades();
        deliversNothingWorse();
        Check.end();
    }

    private static void newObject() {
        GrainReceipts x = new GrainReceipts();
        int[] grades = {0, 0, 1, 1, 2};
        for (int bin = 0; bin < 5; bin++) {
            Check.due("grade of bin " + bin, x.binOf(bin, 0), grades[bin]);
            Check.due("amount of bin " + bin, x.binOf(bin, 1), 0);
            Check.due("loss of bin " + bin, x.binOf(bin, 2), 0);
        }
        int[] prices = {30, 20, 10};
        int[] rooms = {4000, 4000, 2000};
        for (int grade = 0; grade < 3; grade++) {
            Check.due("price", x.gradeOf(grade, 0), prices[grade]);
            Check.due("room", x.gradeOf(grade, 4), rooms[grade]);
            Check.due("surplus", x.gradeOf(grade, 3), 0);
        }
        for (int owner = 0; owner < 8; owner++) {
            Check.due("money", x.ownerOf(owner, 0), 0);
        }
        for (int what = 0; what < 10; what++) {
            Check.due("count " + what, x.count(what), 0);
        }
        int[] settings = {70, 90, 3, 4};
        for (int what = 0; what < 4; what++) {
            Check.due("setting " + what, x.count(20 + what), settings[what]);
        }
        Check.due("no receipt", x.receipt(0), Check.NOT_FOUND);
        Check.due("no state", x.undo(), Check.NOT_POSSIBLE);
    }

    private static void storeFills() {
        GrainReceipts x = new GrainReceipts();
        Check.due("first", x.store(4, 1, 1999), 0);
        Check.due("cut is rounded down", x.receiptOf(0, 2), 1999 - 79);
        Check.due("owner", x.receiptOf(0, 0), 4);
        Check.due("grade", x.receiptOf(0, 1), 1);
        Check.due("over two bins", x.store(0, 1, 24), 1);
        Check.due("no cut of little", x.receiptOf(1, 2), 24);
        Check.due("cut from 25", x.store(0, 1, 25), 2);
        Check.due("cut of 25", x.receiptOf(2, 2), 24);
        Check.due("lowest is full first", x.binOf(2, 1), 2000);
        Check.due("rest in the next", x.binOf(3, 1), 48);
        Check.due("others untouched", x.binOf(0, 1) + x.binOf(1, 1) + x.binOf(4, 1), 0);
        Check.due("room", x.gradeOf(1, 4), 1952);
        Check.due("too much", x.store(0, 1, 1953), Check.LIMIT);
        Check.due("all of the room", x.store(0, 1, 1952), 3);
        Check.due("whole bins", x.store(0, 0, 4000), 4);
        Check.due("receipt of 4000", x.receiptOf(4, 2), 3840);
    }

    private static void storeRefuses() {
        GrainReceipts x = new GrainReceipts();
        Check.due("owner -1", x.store(-1, 0, 1), Check.INVALID);
        Check.due("owner 5", x.store(5, 0, 1), Check.INVALID);
        Check.due("grade -1", x.store(0, -1, 1), Check.INVALID);
        Check.due("grade 3", x.store(0, 3, 1), Check.INVALID);
        Check.due("amount 0", x.store(0, 0, 0), Check.INVALID);
        Check.due("amount 4001", x.store(0, 0, 4001), Check.INVALID);
        Check.due("least int", x.store(0, 0, Integer.MIN_VALUE), Check.INVALID);
        Check.due("amount 2001 of grade 2", x.store(0, 2, 2001), Check.LIMIT);
        Check.due("nothing kept", x.count(8), 0);
        Check.due("nothing stored", x.count(2), 0);
        for (int i = 0; i < 16; i++) {
            Check.due("receipt " + i, x.store(0, 0, 1), i);
        }
        Check.due("the 17th", x.store(0, 0, 1), Check.LIMIT);
        Check.due("wrong and too many", x.store(0, 3, 1), Check.INVALID);
        Check.due("split of one", x.split(0, 1), Check.NOT_POSSIBLE);
        Check.due("deliver", x.deliver(7), 0);
        Check.due("numbers go on", x.store(0, 0, 1), 16);
    }

    private static void storeBehindRegrade() {
        GrainReceipts x = new GrainReceipts();
        Check.due("regrade 4", x.regrade(4, 1), 2);
        Check.due("no bin of the grade", x.store(0, 2, 1), Check.LIMIT);
        Check.due("room of grade 1", x.gradeOf(1, 4), 6000);
        Check.due("regrade 1", x.regrade(1, 2), 0);
        Check.due("store", x.store(0, 2, 2000), 0);
        Check.due("in bin 1", x.binOf(1, 1), 2000);
    }

    private static void splitShares() {
        GrainReceipts x = Check.withReceipt();
        Check.due("plain", x.split(0, 30), 1);
        Check.due("old", x.receiptOf(0, 2), 70);
        Check.due("new", x.receiptOf(1, 2), 30);
        Check.due("new not pledged", x.receiptOf(1, 4), Check.NOT_FOUND);
        Check.due("pledge", x.pledge(0, 2, 100), 100);
        Check.due("split pledged", x.split(0, 20), 2);
        Check.due("new loan", x.receiptOf(2, 5), 28);
        Check.due("new lender", x.receiptOf(2, 4), 2);
        Check.due("new owner", x.receiptOf(2, 0), 0);
        Check.due("old loan", x.receiptOf(0, 5), 72);
        Check.due("money is not touched", x.ownerOf(0, 0), 100);
        Check.due("repay", x.repay(0, 70), 2);
        Check.due("split to a loan of 0", x.split(0, 24), 3);
        Check.due("not pledged", x.receiptOf(3, 4), Check.NOT_FOUND);
        Check.due("no loan", x.receiptOf(3, 5), Check.NOT_FOUND);
        Check.due("old keeps all", x.receiptOf(0, 5), 2);
        Check.due("made", x.count(4), 4);
        Check.due("split to a loan of 1", x.split(0, 13), 4);
        Check.due("pledged for 1", x.receiptOf(4, 5), 1);
        Check.due("1 is left", x.receiptOf(0, 5), 1);
    }

    private static void splitBeyondAnInt() {
        GrainReceipts x = new GrainReceipts();
        x.set(3, 0);
        x.price(2, 99);
        x.set(0, 100);
        x.store(0, 0, 4000);
        Check.due("pledge", x.pledge(0, 0, 396000), 396000);
        Check.due("split", x.split(0, 3999), 1);
        Check.due("exact", x.receiptOf(1, 5), 395901);
        Check.due("rest", x.receiptOf(0, 5), 99);
    }

    private static void splitLeavesCall() {
        GrainReceipts x = Check.withReceipt();
        x.pledge(0, 0, 700);
        x.price(2, 5);
        Check.due("call", x.call(0), 1);
        Check.due("pass", x.pass(1), 0);
        Check.due("split", x.split(0, 50), 1);
        Check.due("old is called", x.receiptOf(0, 6), 2);
        Check.due("new is not called", x.receiptOf(1, 6), Check.NOT_FOUND);
        Check.due("new is pledged", x.receiptOf(1, 5), 350);
        Check.due("one is called", x.lenderOf(0, 3), 1);
        Check.due("call the new one", x.call(0), 1);
        Check.due("with all its days", x.receiptOf(1, 6), 3);
    }

    private static void splitRefuses() {
        GrainReceipts x = Check.withReceipt();
        Check.due("no receipt", x.split(1, 1), Check.INVALID);
        Check.due("negative receipt", x.split(-1, 1), Check.INVALID);
        Check.due("amount 0", x.split(0, 0), Check.INVALID);
        Check.due("all of it", x.split(0, 100), Check.NOT_POSSIBLE);
        Check.due("more than it", x.split(0, Integer.MAX_VALUE), Check.NOT_POSSIBLE);
        Check.due("all but one", x.split(0, 99), 1);
        for (int i = 2; i < 16; i++) {
            Check.due("split " + i, x.split(1, 1), i);
        }
        Check.due("the 17th", x.split(1, 1), Check.LIMIT);
        Check.due("too much rather than too many", x.split(1, 85), Check.NOT_POSSIBLE);
    }

    private static void joins() {
        GrainReceipts x = Check.withReceipt();
        x.store(0, 0, 11);
        Check.due("join", x.join(0, 1), 111);
        Check.due("the former is gone", x.receiptOf(0, 2), Check.INVALID);
        Check.due("one is left", x.count(0), 1);
        Check.due("its number", x.receipt(0), 1);
        Check.due("amounts", x.count(1), 111);
        Check.due("grain stays", x.binOf(0, 1), 111);
        Check.due("no number comes again", x.store(0, 0, 1), 2);
    }

    private static void joinRefuses() {
        GrainReceipts x = Check.withReceipt();
        x.store(1, 0, 10);
        x.store(0, 1, 10);
        x.store(0, 0, 10);
        Check.due("itself", x.join(0, 0), Check.INVALID);
        Check.due("no receipt", x.join(4, 0), Check.INVALID);
        Check.due("into none", x.join(0, 4), Check.INVALID);
        Check.due("neither", x.join(8, 8), Check.INVALID);
        Check.due("other owner", x.join(0, 1), Check.NOT_POSSIBLE);
        Check.due("other grade", x.join(0, 2), Check.NOT_POSSIBLE);
        x.pledge(0, 1, 1);
        Check.due("the first is pledged", x.join(0, 3), Check.NOT_POSSIBLE);
        Check.due("the second is pledged", x.join(3, 0), Check.NOT_POSSIBLE);
        Check.due("all still there", x.count(0), 4);
    }

    private static void hands() {
        GrainReceipts x = Check.withReceipt();
        Check.due("to the last owner", x.hand(0, 7), 0);
        Check.due("the owner", x.receiptOf(0, 0), 7);
        Check.due("back", x.hand(0, 0), 7);
        Check.due("owner 8", x.hand(0, 8), Check.INVALID);
        Check.due("owner -1", x.hand(0, -1), Check.INVALID);
        Check.due("no receipt", x.hand(1, 0), Check.INVALID);
        Check.due("no receipt -1", x.hand(-1, 0), Check.INVALID);
        Check.due("the owner already", x.hand(0, 0), Check.NOT_POSSIBLE);
        x.pledge(0, 0, 1);
        Check.due("pledged", x.hand(0, 1), Check.NOT_POSSIBLE);
        Check.due("pledged, out of range", x.hand(0, 8), Check.INVALID);
    }

    private static void delivers() {
        GrainReceipts x = Check.withReceipt();
        Check.due("no receipt", x.deliver(1), Check.INVALID);
        Check.due("no receipt -1", x.deliver(-1), Check.INVALID);
        x.pledge(0, 0, 1);
        Check.due("pledged", x.deliver(0), Check.NOT_POSSIBLE);
        x.repay(0, 1);
        x.store(1, 0, 3900);
        Check.due("lowest bin first", x.deliver(0), 0);
        Check.due("bin 0", x.binOf(0, 1), 1900);
        Check.due("bin 1", x.binOf(1, 1), 2000);
        Check.due("delivered", x.count(6), 100);
        Check.due("gone", x.receiptOf(0, 0), Check.INVALID);
        Check.due("from both", x.deliver(1), 0);
        Check.due("nothing left", x.count(2), 0);
        Check.due("delivered in all", x.count(6), 4000);
        Check.due("nothing lost", x.count(7), 0);
    }

    private static void deliversThroughGrades() {
        GrainReceipts x = new GrainReceipts();
        x.set(3, 20);
        x.store(0, 0, 1000);
        x.store(1, 1, 500);
        x.set(3, 0);
        x.store(2, 2, 300);
        Check.due("lose at grade 2", x.lose(4, 250), 50);
        Check.due("lose at grade 1", x.lose(2, 50), 450);
        x.deliver(1);
        Check.due("50 are left at grade 1", x.gradeOf(1, 1), 50);
        Check.due("better grain", x.deliver(2), 250);
        Check.due("none of grade 2", x.gradeOf(2, 1), 0);
        Check.due("none of grade 1", x.gradeOf(1, 1), 0);
        Check.due("rest from grade 0", x.gradeOf(0, 1), 800);
        Check.due("grade 0 is covered", x.gradeOf(0, 3), 0);
        Check.due("the last", x.deliver(0), 0);
        Check.due("no grain", x.count(2), 0);
    }

    private static void deliversNothingWorse() {
        GrainReceipts x = Check.withReceipt();
        x.store(0, 1, 100);
        x.store(0, 2, 100);
        x.set(3, 20);
        x.store(0, 0, 1000);
        Check.due("bin 2 goes down", x.regrade(2, 2), 1);
        Check.due("all of it is better", x.deliver(1), 100);
        Check.due("bin 0", x.binOf(0, 1), 1000);
        Check.due("bin 2 of grade 2", x.binOf(2, 1), 100);
        Check.due("bin 4", x.binOf(4, 1), 100);
    }
}
