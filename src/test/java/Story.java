import java.util.ArrayList;
import java.util.List;

/**
 * A way to a state. Each look at the state goes the way again on a new object, as the document promises what an
 * object answers for 512 calls alone.
 */
final class Story {
    interface Part {
        void on(GrainReceipts x);
    }

    interface Call {
        int on(GrainReceipts x);
    }

    private static final int MOST_STATES = 4;
    /** Where the view of a state has the number of states in the history. */
    private static final int STATES_SEEN = 8;

    static final Story EMPTY = new Story("a new object", x -> { });

    /** Receipt 0: owner 0, grade 0, 100, without a cut. */
    static final Story ONE = EMPTY.and("one receipt", x -> {
        x.set(3, 0);
        x.store(0, 0, 100);
    });

    /** Receipt 0 owes lender 0 as much as it can: 700. */
    static final Story PLEDGED = ONE.and("pledged", x -> x.pledge(0, 0, 700));

    /** Receipt 0 owes 700 and may owe 450; it is called, with 3 days. */
    static final Story CALLED = PLEDGED.and("called", x -> {
        x.price(2, 5);
        x.call(0);
    });

    /** Lender 0 owns receipt 0. */
    static final Story SEIZED = CALLED.and("seized", x -> x.pass(3));

    /** Receipts 0 to 15 of 10 each, owner 0, grade 0, without a cut. */
    static final Story SIXTEEN = EMPTY.and("16 receipts", x -> {
        x.set(3, 0);
        for (int i = 0; i < 16; i++) {
            x.store(0, 0, 10);
        }
    });

    /** All bins are full, and all of it has receipts: 0 of 4000, 1 of 4000, 2 of 2000, one for each grade. */
    static final Story FULL_BINS = EMPTY.and("full bins", x -> {
        x.set(3, 0);
        x.store(0, 0, 4000);
        x.store(1, 1, 4000);
        x.store(2, 2, 2000);
    });

    /** All 10000 grains are of grade 0, and receipt 0 has them all. */
    static final Story GREATEST = EMPTY.and("the greatest receipt", x -> {
        x.set(3, 0);
        x.regrade(2, 0);
        x.regrade(3, 0);
        x.regrade(4, 0);
        x.store(0, 0, 4000);
        x.store(0, 0, 4000);
        x.store(0, 0, 2000);
        x.join(1, 0);
        x.join(2, 0);
    });

    /** 20 orders in 60 characters, without a fault. */
    static final Story FULL_TEXT = ONE.and("a full text", x -> type(x, "t1;".repeat(20)));

    static final Story FAULTY_TEXT = ONE.and("a faulty text", x -> type(x, "t1;c3;"));

    /** Receipts of each kind: 0 is pledged, 1 called, 2 seized, 3 of grade 1, 4 of grade 2; all bins have a surplus. */
    static final Story MIXED = EMPTY.and("a mixed state", x -> {
        x.store(0, 0, 2000);
        x.store(1, 0, 1000);
        x.store(2, 0, 500);
        x.store(3, 1, 2200);
        x.store(4, 2, 600);
        x.lose(4, 1);
        x.pledge(2, 2, 3000);
        x.price(2, 5);
        x.call(2);
        x.pass(3);
        x.pledge(1, 1, 3000);
        x.price(2, 3);
        x.call(1);
        x.pledge(0, 0, 1);
        type(x, "c0;d3;");
    });

    static final Story[] ALL = {EMPTY, ONE, PLEDGED, CALLED, SEIZED, SIXTEEN, FULL_BINS, GREATEST, FULL_TEXT,
        FAULTY_TEXT, MIXED};

    final String name;
    private final Part part;

    private Story(String name, Part part) {
        this.name = name;
        this.part = part;
    }

    Story and(String more, Part then) {
        return new Story(more, x -> {
            part.on(x);
            then.on(x);
        });
    }

    GrainReceipts tell() {
        GrainReceipts x = new GrainReceipts();
        part.on(x);
        return x;
    }

    void answers(String what, Call call, int want) {
        Check.due(name + ": " + what, call.on(tell()), want);
    }

    /** The call answers the error, and nothing is another one behind it, in no state of the history either. */
    void refuses(String what, Call call, int error) {
        answers(what, call, error);
        Story behind = and(name, call::on);
        for (int undone = 0; undone <= MOST_STATES; undone++) {
            isSeen(what + " is refused, then undone " + undone, behind.seen(undone), seen(undone));
        }
    }

    /** The call answers no error, is recorded, and is undone to all that was. */
    void goesAndIsUndone(String what, Call call) {
        int states = Math.min(MOST_STATES, tell().count(8) + 1);
        GrainReceipts x = tell();
        Check.due(name + ": " + what + " is no error", call.on(x) > -2000000000 ? 1 : 0, 1);
        Check.due(name + ": states behind " + what, x.count(8), states);
        Check.due(name + ": undo of " + what, x.undo(), states - 1);
        Story undone = and(name, y -> {
            call.on(y);
            y.undo();
        });
        List<Integer> want = seen(0);
        want.set(STATES_SEEN, states - 1);
        isSeen(what + " is undone", undone.seen(0), want);
    }

    private void isSeen(String when, List<Integer> seen, List<Integer> want) {
        boolean same = seen.equals(want);
        Check.due(name + ": " + when + ": all is as it was" + (same ? "" : " " + seen + " " + want), same ? 1 : 0, 1);
    }

    /** All that questions tell, when some changes are undone: the counts first, what the text does last. */
    private List<Integer> seen(int undone) {
        GrainReceipts x = tell();
        List<Integer> seen = new ArrayList<>();
        for (int i = 0; i < undone; i++) {
            x.undo();
        }
        for (int what = 0; what < 24; what++) {
            seen.add(what < 10 || what > 19 ? x.count(what) : 0);
        }
        for (int index = 0; index <= x.count(0); index++) {
            int receipt = x.receipt(index);
            seen.add(receipt);
            for (int what = 0; what < 10 && index < x.count(0); what++) {
                seen.add(x.receiptOf(receipt, what));
            }
        }
        seeRest(x, seen);
        return seen;
    }

    private static void seeRest(GrainReceipts x, List<Integer> seen) {
        for (int bin = 0; bin < 5; bin++) {
            seen.add(x.binOf(bin, 0));
            seen.add(x.binOf(bin, 1));
        }
        for (int i = 0; i < 3; i++) {
            seen.add(x.gradeOf(i, 0));
            seen.add(x.gradeOf(i, 3));
            seen.add(x.lenderOf(i, 4));
            seen.add(x.fallTo(i));
            seen.add(x.fault(i));
        }
        for (int owner = 0; owner < 8; owner++) {
            seen.add(x.ownerOf(owner, 0));
        }
        seen.add(x.play());
        seen.add(x.count(3));
        seen.add(x.count(6));
    }

    static void type(GrainReceipts x, String text) {
        for (int i = 0; i < text.length(); i++) {
            x.type(text.charAt(i));
        }
    }
}
