/** The edges that "Changes and errors" and promise 23 name: the sentence stands above its test. */
public final class ChangeEdgeTest {
    private static final String[] NAMES = {"store", "split", "join", "hand", "pledge", "repay", "price", "call",
        "deliver", "lose", "regrade", "pass", "set", "play"};

    public static void main(String[] args) {
        changes();
        changesInAllStates();
        changesOfNothing();
        noChanges();
        fourStates();
        oldestIsDropped();
        undoEmpty();
        undoLeavesText();
        undoThenChange();
        undoTakesNumbersBack();
        refusedRestoresNothing();
        orderOfErrors();
        manyCalls();
        mostMoney();
        Check.end();
    }

    private static int change(GrainReceipts x, int which) {
        switch (which) {
            case 0: return x.store(1, 2, 30);
            case 1: return x.split(1, 3);
            case 2: return x.join(6, 5);
            case 3: return x.hand(2, 6);
            case 4: return x.pledge(3, 1, 20);
            case 5: return x.repay(1, 3000);
            case 6: return x.price(1, 77);
            case 7: return x.call(0);
            case 8: return x.deliver(2);
            case 9: return x.lose(0, 1);
            case 10: return x.regrade(3, 2);
            case 11: return x.pass(3);
            case 12: return x.set(1, 55);
            default: return x.play();
        }
    }

    /** All of the changes are possible in it, and each one changes something, but for the call of lender 0. */
    private static Story ready() {
        return Story.MIXED.and("ready for all changes", x -> {
            x.store(0, 1, 10);
            x.store(0, 1, 10);
        });
    }

    /** "The changes are the calls of store, split, join, hand, pledge, repay, price, call, deliver, lose, regrade,
     *  pass, set and play that return no error .. each change records everything before it but the text" */
    private static void changes() {
        for (int i = 0; i < NAMES.length; i++) {
            int which = i;
            ready().goesAndIsUndone(NAMES[i], x -> change(x, which));
            // Two undone: the state before the change has to be whole below another one, too.
            Story twice = ready().and("ready", x -> {
                change(x, which);
                x.price(0, 98);
                x.undo();
                x.undo();
            });
            twice.answers(NAMES[i] + " and another undone: price", x -> x.gradeOf(0, 0), 30);
            twice.answers(NAMES[i] + " and another undone: states", x -> x.count(8), 2);
            twice.answers(NAMES[i] + " and another undone: made", x -> x.count(4), 7);
            for (int k = 0; k < NAMES.length; k++) {
                int other = k;
                twice.answers(NAMES[i] + ", then " + NAMES[k], x -> change(x, other), change(ready().tell(), k));
            }
        }
    }

    /** "everything": a change is undone to what was, whatever that was. */
    private static void changesInAllStates() {
        for (Story story : Story.ALL) {
            story.goesAndIsUndone("price", x -> x.price(2, 3));
            story.goesAndIsUndone("set", x -> x.set(3, 9));
            story.goesAndIsUndone("call", x -> x.call(0));
            story.goesAndIsUndone("pass", x -> x.pass(99));
        }
    }

    /** A call that returns no error is a change, also when all is as it was. */
    private static void changesOfNothing() {
        Story.EMPTY.goesAndIsUndone("the same price", x -> x.price(0, 30));
        Story.EMPTY.goesAndIsUndone("the same setting", x -> x.set(0, 70));
        Story.EMPTY.goesAndIsUndone("the same grade", x -> x.regrade(0, 0));
        Story.EMPTY.goesAndIsUndone("a call of none", x -> x.call(0));
        Story.EMPTY.goesAndIsUndone("a play of none", x -> x.play());
    }

    /** All other calls are no changes: the questions, type, clearText and undo. */
    private static void noChanges() {
        GrainReceipts x = Story.CALLED.tell();
        int states = x.count(8);
        for (int what = 0; what < 10; what++) {
            x.receiptOf(0, what);
            x.receipt(what);
            x.binOf(0, what);
            x.gradeOf(0, what);
            x.ownerOf(0, what);
            x.lenderOf(0, what);
            x.fallTo(what);
            x.count(what);
            x.fault(what);
            Check.due("states stay at " + what, x.count(8), states);
        }
        x.type('c');
        Check.due("states behind type", x.count(8), states);
        x.fault(0);
        Check.due("states behind fault", x.count(8), states);
        x.clearText();
        Check.due("states behind clearText", x.count(8), states);
    }

    /** "A history of at most 4 states is kept"; promise 23: "Returns the number of states that are left" */
    private static void fourStates() {
        for (int changes = 0; changes < 8; changes++) {
            GrainReceipts x = new GrainReceipts();
            for (int i = 1; i <= changes; i++) {
                Check.due("price", x.price(0, i), i == 1 ? 30 : i - 1);
                Check.due("states behind " + i, x.count(8), Math.min(i, 4));
            }
            int states = Math.min(changes, 4);
            for (int undone = 1; undone <= states; undone++) {
                Check.due("left", x.undo(), states - undone);
                Check.due("states left", x.count(8), states - undone);
                int price = changes - undone;
                Check.due("price before", x.gradeOf(0, 0), price == 0 ? 30 : price);
            }
            Check.due("none left", x.undo(), Check.NOT_POSSIBLE);
        }
    }

    /** "if there are 5 states then, the oldest one is dropped" */
    private static void oldestIsDropped() {
        for (int i = 0; i < NAMES.length; i++) {
            GrainReceipts x = ready().tell();
            Check.due("4 states", x.count(8), 4);
            change(x, i);
            Check.due("4 states behind " + NAMES[i], x.count(8), 4);
            for (int left = 3; left >= 0; left--) {
                Check.due("left", x.undo(), left);
            }
            Check.due("not 5 behind " + NAMES[i], x.undo(), Check.NOT_POSSIBLE);
            Check.due("the store of receipt 5 is undone", x.count(4), 5);
            Check.due("the pledge of receipt 0 is undone", x.receiptOf(0, 4), Check.NOT_FOUND);
            Check.due("the call of receipt 1 is not", x.receiptOf(1, 6), 3);
        }
    }

    /** "NOT_POSSIBLE if it is empty" */
    private static void undoEmpty() {
        Story.EMPTY.refuses("a new object", GrainReceipts::undo, Check.NOT_POSSIBLE);
        Story text = Story.EMPTY.and("a text alone", x -> Story.type(x, "t1;"));
        text.refuses("a text is no change", GrainReceipts::undo, Check.NOT_POSSIBLE);
        Story all = Story.SIXTEEN.and("4 undone", x -> {
            for (int i = 0; i < 4; i++) {
                x.undo();
            }
        });
        all.answers("12 are left", x -> x.count(0), 12);
        all.refuses("all undone", GrainReceipts::undo, Check.NOT_POSSIBLE);
        Story error = Story.EMPTY.and("an error alone", x -> x.lose(0, 1));
        error.refuses("an error is no change", GrainReceipts::undo, Check.NOT_POSSIBLE);
    }

    /** "records everything before it but the text" */
    private static void undoLeavesText() {
        GrainReceipts x = new GrainReceipts();
        x.price(0, 1);
        Story.type(x, "t1;");
        x.price(0, 2);
        Story.type(x, "t2;");
        Check.due("undo", x.undo(), 1);
        Check.due("all of the text", x.count(9), 6);
        Check.due("undo", x.undo(), 0);
        Check.due("all of the text", x.count(9), 6);
        Check.due("play", x.play(), 2);
        Check.due("day", x.count(3), 3);
        Check.due("clear", x.clearText(), 6);
        Check.due("undo", x.undo(), 0);
        Check.due("no text", x.count(9), 0);
        Check.due("day", x.count(3), 0);
    }

    /** A change behind an undo records what is there then; what was undone is not there any more. */
    private static void undoThenChange() {
        GrainReceipts x = new GrainReceipts();
        for (int price = 1; price <= 6; price++) {
            x.price(0, price);
        }
        Check.due("undo", x.undo(), 3);
        Check.due("undo", x.undo(), 2);
        Check.due("change", x.price(0, 50), 4);
        Check.due("states", x.count(8), 3);
        Check.due("change", x.price(0, 60), 50);
        Check.due("states", x.count(8), 4);
        int[] prices = {50, 4, 3, 2};
        for (int i = 0; i < 4; i++) {
            Check.due("undo", x.undo(), 3 - i);
            Check.due("price", x.gradeOf(0, 0), prices[i]);
        }
        Check.due("none", x.undo(), Check.NOT_POSSIBLE);
    }

    /** "everything": the number of receipts that were made, too */
    private static void undoTakesNumbersBack() {
        GrainReceipts x = Story.ONE.tell();
        Check.due("made", x.store(0, 0, 1), 1);
        Check.due("undo", x.undo(), 2);
        Check.due("made so far", x.count(4), 1);
        Check.due("no receipt 1", x.receiptOf(1, 0), Check.INVALID);
        Check.due("made then", x.split(0, 1), 1);
        Check.due("undo", x.undo(), 2);
        Check.due("whole again", x.receiptOf(0, 2), 100);
        Check.due("delivered", x.deliver(0), 0);
        Check.due("undo", x.undo(), 2);
        Check.due("there again", x.receipt(0), 0);
        Check.due("not delivered", x.count(6), 0);
    }

    /** "A call that returns an error changes nothing": one of each call, in the midst of a filled history */
    private static void refusedRestoresNothing() {
        Story story = ready();
        story.refuses("store", x -> x.store(0, 2, 2000), Check.LIMIT);
        story.refuses("split", x -> x.split(0, 1920), Check.NOT_POSSIBLE);
        story.refuses("join", x -> x.join(5, 0), Check.NOT_POSSIBLE);
        story.refuses("hand", x -> x.hand(1, 2), Check.NOT_POSSIBLE);
        story.refuses("deliver", x -> x.deliver(1), Check.NOT_POSSIBLE);
        story.refuses("pledge", x -> x.pledge(2, 2, 1), Check.NOT_POSSIBLE);
        story.refuses("repay", x -> x.repay(1, 3001), Check.NOT_POSSIBLE);
        story.refuses("price", x -> x.price(2, 100), Check.INVALID);
        story.refuses("call", x -> x.call(3), Check.INVALID);
        story.refuses("pass", x -> x.pass(100), Check.INVALID);
        story.refuses("lose", x -> x.lose(0, 141), Check.NOT_POSSIBLE);
        story.refuses("regrade", x -> x.regrade(1, 1), Check.NOT_POSSIBLE);
        story.refuses("set", x -> x.set(2, 31), Check.INVALID);
        story.refuses("type", x -> x.type(127), Check.INVALID);
        story.refuses("fault", x -> x.fault(0), Check.NOT_FOUND);
        story.refuses("fallTo", x -> x.fallTo(2), Check.NOT_FOUND);
        story.refuses("receipt", x -> x.receipt(7), Check.NOT_FOUND);
        Story faulty = story.and("a fault behind 2 orders", x -> Story.type(x, "d5;"));
        faulty.answers("play goes once", x -> x.play(), 3);
        faulty.and("played", x -> x.play()).refuses("play", GrainReceipts::play, Check.NOT_POSSIBLE);
    }

    /** "INVALID_ARGUMENT is returned rather than NOT_POSSIBLE, NOT_POSSIBLE rather than LIMIT_REACHED, and
     *  LIMIT_REACHED rather than NOT_FOUND" */
    private static void orderOfErrors() {
        Story full = Story.SIXTEEN.and("no room of grade 2", x -> {
            x.join(0, 1);
            x.store(0, 2, 2000);
        });
        full.refuses("both limits", x -> x.store(0, 2, 1), Check.LIMIT);
        full.refuses("invalid, both limits", x -> x.store(-1, 2, 1), Check.INVALID);
        full.refuses("invalid, limit", x -> x.split(0, 1), Check.INVALID);
        full.refuses("invalid amount, limit", x -> x.split(1, 0), Check.INVALID);
        full.refuses("not possible, limit", x -> x.split(1, 20), Check.NOT_POSSIBLE);
        full.refuses("limit alone", x -> x.split(1, 19), Check.LIMIT);
        Story.CALLED.refuses("join: invalid, pledged", x -> x.join(0, 0), Check.INVALID);
        Story.CALLED.refuses("join: no receipt, pledged", x -> x.join(0, 1), Check.INVALID);
        Story.CALLED.refuses("hand: invalid, pledged", x -> x.hand(0, -1), Check.INVALID);
        Story.CALLED.refuses("pledge: invalid lender, pledged", x -> x.pledge(0, -1, 1), Check.INVALID);
        Story.CALLED.refuses("pledge: invalid loan, pledged", x -> x.pledge(0, 1, 0), Check.INVALID);
        Story.ONE.refuses("pledge: invalid lender, too great", x -> x.pledge(0, 3, 701), Check.INVALID);
        Story.ONE.refuses("repay: invalid, not pledged", x -> x.repay(0, 0), Check.INVALID);
        Story.EMPTY.refuses("lose: invalid, it has less", x -> x.lose(0, 0), Check.INVALID);
        Story.FULL_BINS.refuses("lose: invalid, not covered", x -> x.lose(5, 1), Check.INVALID);
        Story.FULL_BINS.refuses("regrade: invalid, not covered", x -> x.regrade(0, 3), Check.INVALID);
        Story.FULL_BINS.refuses("regrade: invalid, not empty", x -> x.regrade(4, -1), Check.INVALID);
        Story.ONE.refuses("receiptOf: invalid, not found", x -> x.receiptOf(1, 4), Check.INVALID);
        Story.EMPTY.refuses("receipt: invalid, not found", x -> x.receipt(-1), Check.INVALID);
        Story.EMPTY.refuses("fallTo: invalid, not found", x -> x.fallTo(3), Check.INVALID);
        Story.EMPTY.refuses("fault: invalid, not found", x -> x.fault(3), Check.INVALID);
        Story.FULL_TEXT.refuses("type: invalid, limit", x -> x.type(31), Check.INVALID);
    }

    /** "An object is used for at most 512 calls": receipts are made and go, and their numbers go on. */
    private static void manyCalls() {
        GrainReceipts x = new GrainReceipts();
        for (int i = 0; i < 170; i++) {
            Check.due("store", x.store(0, 0, 4000), i);
            Check.due("deliver", x.deliver(i), 0);
            Check.due("lose what was cut", x.lose(1, 160), 0);
        }
        Check.due("made", x.count(4), 170);
        Check.due("lost", x.count(7), 170 * 160);
    }

    /** The same 512 calls, filled with the greatest loans: each play seizes three of 990000, and no sum wraps around. */
    private static void mostMoney() {
        GrainReceipts x = Story.GREATEST.tell();
        x.set(0, 100);
        x.set(1, 10);
        x.set(2, 1);
        x.price(2, 99);
        x.price(0, 99);
        Story.type(x, "l0,0,990000;c0;t1;l0,1,990000;c1;t1;l0,2,990000;c2;t1;");
        int plays = 430;
        for (int i = 0; i < plays; i++) {
            Check.due("play", x.play(), 9);
        }
        Check.due("seized", x.count(5), 3 * plays);
        Check.due("day", x.count(3), 3 * plays);
        Check.due("money of the first owner", x.ownerOf(0, 0), 990000);
        for (int lender = 0; lender < 3; lender++) {
            // The last one to seize has lent nothing on what it seized then.
            int loans = lender == 2 ? plays - 1 : plays;
            Check.due("loans seized by " + lender, x.lenderOf(lender, 4), 990000 * plays);
            Check.due("money of lender " + lender, x.ownerOf(5 + lender, 0), 990000 * loans);
            int owned = lender == 2 ? 990000 : 0;
            Check.due("net worth of lender " + lender, x.ownerOf(5 + lender, 4), 990000 * loans + owned);
        }
    }
}
