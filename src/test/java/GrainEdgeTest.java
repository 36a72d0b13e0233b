/** The edges that "Bins", "Receipts" and the promises 1 to 6 name: the sentence stands above its test. */
public final class GrainEdgeTest {
    private static final int MOST = Integer.MAX_VALUE;
    private static final int LEAST = Integer.MIN_VALUE;

    public static void main(String[] args) {
        fiveBins();
        threeGrades();
        binAmounts();
        firstBins();
        sixteenReceipts();
        numbersInOrder();
        amountsOfOne();
        eightOwners();
        noSuchReceipt();
        coveredExactly();
        servedByBetter();
        storeRanges();
        storeCut();
        storeLowestBinFirst();
        storeRoom();
        storeErrors();
        splitRanges();
        splitLoans();
        splitBeyondInt();
        splitCalls();
        joinEdges();
        handEdges();
        deliverBins();
        deliverBetter();
        deliverErrors();
        Check.end();
    }

    /** "There are 5 bins, numbered from 0" */
    private static void fiveBins() {
        Story three = Story.EMPTY.and("three surpluses", x -> {
            x.store(0, 0, 100);
            x.store(0, 0, 4000 - 100);
            x.store(0, 2, 2000);
        });
        three.answers("bin 0", x -> x.lose(0, 1), 1999);
        three.answers("bin 4", x -> x.lose(4, 1), 1999);
        three.answers("grade of bin 0", x -> x.binOf(0, 0), 0);
        three.answers("grade of bin 4", x -> x.binOf(4, 0), 2);
        Story.EMPTY.answers("regrade bin 0", x -> x.regrade(0, 2), 0);
        Story.EMPTY.answers("regrade bin 4", x -> x.regrade(4, 0), 2);
        for (int bin : new int[] {-1, 5, MOST, LEAST}) {
            three.refuses("lose", x -> x.lose(bin, 1), Check.INVALID);
            three.refuses("regrade", x -> x.regrade(bin, 2), Check.INVALID);
            three.refuses("binOf", x -> x.binOf(bin, 1), Check.INVALID);
        }
    }

    /** "a grade (0, the best, to 2, the lowest)" */
    private static void threeGrades() {
        for (int grade = 0; grade < 3; grade++) {
            int each = grade;
            Story.EMPTY.answers("store", x -> x.store(0, each, 1), 0);
            Story.EMPTY.and("stored", x -> x.store(0, each, 1)).answers("its grade", x -> x.receiptOf(0, 1), each);
        }
        for (int grade : new int[] {-1, 3, MOST, LEAST}) {
            Story.ONE.refuses("store", x -> x.store(0, grade, 1), Check.INVALID);
            Story.ONE.refuses("price", x -> x.price(grade, 1), Check.INVALID);
            Story.ONE.refuses("regrade", x -> x.regrade(1, grade), Check.INVALID);
            Story.ONE.refuses("gradeOf", x -> x.gradeOf(grade, 0), Check.INVALID);
        }
    }

    /** "an amount (0 to 2000)" */
    private static void binAmounts() {
        GrainReceipts x = new GrainReceipts();
        x.set(3, 0);
        Check.due("empty", x.binOf(4, 1), 0);
        Check.due("1999", x.store(0, 2, 1999), 0);
        Check.due("not full", x.binOf(4, 1), 1999);
        Check.due("not 2001", x.store(0, 2, 2), Check.LIMIT);
        Check.due("the last one", x.store(0, 2, 1), 1);
        Check.due("full", x.binOf(4, 1), 2000);
        Check.due("not one more", x.store(0, 2, 1), Check.LIMIT);
        Check.due("out", x.deliver(0), 0);
        Check.due("one is left", x.binOf(4, 1), 1);
        Check.due("out too", x.deliver(1), 0);
        Check.due("empty again", x.binOf(4, 1), 0);
    }

    /** "At first the bins 0 and 1 have the grade 0, the bins 2 and 3 the grade 1, the bin 4 the grade 2, and all
     *  amounts are 0." And promise 1: "Creates empty bins." */
    private static void firstBins() {
        for (int bin = 0; bin < 5; bin++) {
            int each = bin;
            int grade = bin < 2 ? 0 : bin < 4 ? 1 : 2;
            Story.EMPTY.answers("grade of " + bin, x -> x.binOf(each, 0), grade);
            Story.EMPTY.answers("amount of " + bin, x -> x.binOf(each, 1), 0);
        }
        Story.EMPTY.answers("grain", x -> x.count(2), 0);
        Story.EMPTY.answers("receipts", x -> x.count(0), 0);
    }

    /** "There are at most 16 receipts." */
    private static void sixteenReceipts() {
        Story fifteen = Story.SIXTEEN.and("15 receipts", x -> x.deliver(3));
        Story.SIXTEEN.answers("receipts", x -> x.count(0), 16);
        Story.SIXTEEN.answers("the last", x -> x.receipt(15), 15);
        Story.SIXTEEN.refuses("store", x -> x.store(0, 2, 1), Check.LIMIT);
        Story.SIXTEEN.refuses("split", x -> x.split(0, 1), Check.LIMIT);
        fifteen.answers("store", x -> x.store(0, 2, 1), 16);
        fifteen.answers("split", x -> x.split(0, 1), 16);
        fifteen.and("stored", x -> x.store(0, 2, 1)).refuses("store", x -> x.store(0, 2, 1), Check.LIMIT);
        fifteen.and("split", x -> x.split(0, 1)).refuses("split", x -> x.split(0, 1), Check.LIMIT);
        Story joined = Story.SIXTEEN.and("joined", x -> x.join(0, 15));
        joined.answers("store", x -> x.store(0, 2, 1), 16);
        joined.answers("split", x -> x.split(15, 19), 16);
        Story paid = Story.SIXTEEN.and("pledged", x -> x.pledge(15, 0, 1));
        paid.refuses("a pledge frees no place", x -> x.store(0, 2, 1), Check.LIMIT);
    }

    /** "a number (0, 1, 2 and so on, in the order in which they were made; no number comes again)" */
    private static void numbersInOrder() {
        GrainReceipts x = Story.ONE.tell();
        Check.due("next", x.store(0, 1, 10), 1);
        Check.due("split is next", x.split(0, 10), 2);
        Check.due("a refused one", x.store(0, 2, 2001), Check.LIMIT);
        Check.due("another refused one", x.split(0, 90), Check.NOT_POSSIBLE);
        Check.due("takes no number", x.store(0, 0, 10), 3);
        Check.due("the last is delivered", x.deliver(3), 0);
        Check.due("not again", x.store(0, 0, 10), 4);
        Check.due("the last is joined", x.join(4, 0), 100);
        Check.due("not again", x.split(0, 1), 5);
        for (int receipt : new int[] {0, 1, 2, 5}) {
            Check.due("all are delivered", x.deliver(receipt), 0);
        }
        Check.due("none", x.count(0), 0);
        Check.due("not again from 0", x.store(0, 0, 1), 6);
    }

    /** "an amount (1 or more)" */
    private static void amountsOfOne() {
        Story cut = Story.EMPTY.and("cut of 20", x -> x.set(3, 20));
        cut.and("1 stored", x -> x.store(0, 0, 1)).answers("amount", x -> x.receiptOf(0, 2), 1);
        Story.ONE.and("split", x -> x.split(0, 99)).answers("1 stays", x -> x.receiptOf(0, 2), 1);
        Story.ONE.and("split", x -> x.split(0, 1)).answers("1 is new", x -> x.receiptOf(1, 2), 1);
        Story.ONE.refuses("0 would stay", x -> x.split(0, 100), Check.NOT_POSSIBLE);
        Story.ONE.refuses("0 would be new", x -> x.split(0, 0), Check.INVALID);
    }

    /** "Owners are 0 to 4, and 5 to 7: the lenders 0 to 2 themselves." */
    private static void eightOwners() {
        for (int owner = 0; owner < 8; owner++) {
            int each = owner;
            if (owner > 0) {
                Story.ONE.answers("hand to " + owner, x -> x.hand(0, each), 0);
            }
            Story.ONE.answers("receipts of " + owner, x -> x.ownerOf(each, 1), owner == 0 ? 1 : 0);
            if (owner < 5) {
                Story.EMPTY.answers("store of " + owner, x -> x.store(each, 0, 1), 0);
            } else {
                Story.EMPTY.refuses("store of " + owner, x -> x.store(each, 0, 1), Check.INVALID);
            }
        }
        for (int owner : new int[] {-1, 8, MOST, LEAST}) {
            Story.ONE.refuses("store of " + owner, x -> x.store(owner, 0, 1), Check.INVALID);
            Story.ONE.refuses("hand to " + owner, x -> x.hand(0, owner), Check.INVALID);
            Story.ONE.refuses("ownerOf " + owner, x -> x.ownerOf(owner, 0), Check.INVALID);
        }
        for (int lender = 0; lender < 3; lender++) {
            int each = lender;
            Story own = Story.ONE.and("owner is lender " + lender, x -> x.hand(0, 5 + each));
            own.refuses("pledge to itself", x -> x.pledge(0, each, 1), Check.NOT_POSSIBLE);
            own.answers("pledge to another", x -> x.pledge(0, (each + 1) % 3, 1), 1);
        }
    }

    /** "if there is none with it (any more), this is INVALID_ARGUMENT" */
    private static void noSuchReceipt() {
        Story gone = Story.EMPTY.and("0 delivered, 1 joined into 2, 3 undone", x -> {
            x.set(3, 0);
            for (int i = 0; i < 3; i++) {
                x.store(0, 0, 10);
            }
            x.deliver(0);
            x.join(1, 2);
            x.store(0, 0, 10);
            x.undo();
        });
        gone.answers("one is left", x -> x.receipt(0), 2);
        gone.answers("and no other", x -> x.receipt(1), Check.NOT_FOUND);
        for (int receipt : new int[] {0, 1, 3, 4, 16, -1, MOST, LEAST, Check.INVALID}) {
            refusesReceipt(gone, receipt);
        }
        for (int receipt : new int[] {0, 15, -1}) {
            refusesReceipt(Story.EMPTY, receipt);
        }
        refusesReceipt(Story.SIXTEEN, 16);
        refusesReceipt(Story.SIXTEEN, -1);
    }

    private static void refusesReceipt(Story story, int receipt) {
        String of = " of receipt " + receipt;
        story.refuses("split" + of, x -> x.split(receipt, 1), Check.INVALID);
        story.refuses("join" + of, x -> x.join(receipt, 2), Check.INVALID);
        story.refuses("join into" + of, x -> x.join(2, receipt), Check.INVALID);
        story.refuses("hand" + of, x -> x.hand(receipt, 1), Check.INVALID);
        story.refuses("deliver" + of, x -> x.deliver(receipt), Check.INVALID);
        story.refuses("pledge" + of, x -> x.pledge(receipt, 0, 1), Check.INVALID);
        story.refuses("repay" + of, x -> x.repay(receipt, 1), Check.INVALID);
        for (int what = 0; what < 10; what++) {
            int each = what;
            story.refuses("receiptOf" + of, x -> x.receiptOf(receipt, each), Check.INVALID);
        }
    }

    /** "covered if for each grade g the receipts of the grades 0 to g have together at most as much as the bins of
     *  the grades 0 to g. The surplus of a grade g is how much more these bins have than these receipts." */
    private static void coveredExactly() {
        Story surpluses = Story.EMPTY.and("surpluses of 5, 8 and 12", x -> {
            x.set(3, 10);
            x.store(0, 0, 50);
            x.store(0, 1, 30);
            x.store(0, 2, 40);
        });
        losesUpTo(surpluses, 5, 8, 12);
        losesUpTo(surpluses.and("2 are left to grade 2", x -> x.lose(4, 10)), 2, 2, 2);
        losesUpTo(surpluses.and("2 are left to grade 1", x -> x.lose(2, 6)), 2, 2, 6);
        losesUpTo(surpluses.and("0 are left to grade 0", x -> x.lose(0, 5)), 0, 3, 7);
        losesUpTo(surpluses.and("0 are left to grade 2", x -> x.lose(4, 12)), 0, 0, 0);
        int[] surplus = {5, 8, 12};
        for (int grade = 0; grade < 3; grade++) {
            int each = grade;
            surpluses.answers("surplus of " + grade, x -> x.gradeOf(each, 3), surplus[grade]);
            Story.FULL_BINS.answers("surplus of full bins", x -> x.gradeOf(each, 3), 0);
            Story.EMPTY.answers("surplus of empty bins", x -> x.gradeOf(each, 3), 0);
        }
    }

    private static void losesUpTo(Story story, int bin0, int bin2, int bin4) {
        int[] most = {bin0, 0, bin2, 0, bin4};
        for (int bin = 0; bin < 5; bin++) {
            int each = bin;
            int amount = most[bin];
            story.answers("could lose of bin " + bin, x -> x.binOf(each, 2), amount);
            story.refuses("lose more of bin " + bin, x -> x.lose(each, amount + 1), Check.NOT_POSSIBLE);
            if (amount > 0) {
                int left = story.tell().binOf(bin, 1) - amount;
                story.answers("lose all that it could of bin " + bin, x -> x.lose(each, amount), left);
            }
        }
    }

    /** "Receipts of a grade can be served by grain of this grade, or of a better one (a lesser number)." */
    private static void servedByBetter() {
        Story better = Story.EMPTY.and("100 more of grade 0", x -> {
            x.set(3, 0);
            x.store(0, 0, 100);
            x.store(0, 1, 50);
            x.store(0, 2, 50);
            x.store(0, 0, 100);
            x.set(3, 20);
            x.store(0, 0, 1000);
            x.lose(0, 100);
        });
        better.answers("surplus of grade 0", x -> x.gradeOf(0, 3), 100);
        better.answers("all grain of grade 1 can be lost", x -> x.lose(2, 50), 0);
        better.answers("all grain of grade 2 can be lost", x -> x.lose(4, 50), 0);
        Story without = better.and("no grain of grade 1 and 2", x -> {
            x.lose(2, 50);
            x.lose(4, 50);
        });
        without.answers("grade 1 is served by grade 0", x -> x.deliver(1), 50);
        without.answers("grade 2 is served by grade 0", x -> x.deliver(2), 50);
        without.refuses("grade 0 is not served by any other", x -> x.lose(0, 1), Check.NOT_POSSIBLE);
        Story worse = Story.EMPTY.and("worse grain", x -> {
            x.set(3, 20);
            x.store(0, 2, 1000);
            x.set(3, 0);
            x.store(0, 1, 50);
        });
        worse.answers("200 more of grade 2", x -> x.gradeOf(2, 3), 200);
        worse.refuses("grade 1 is not served by grade 2", x -> x.lose(2, 1), Check.NOT_POSSIBLE);
    }

    /** Promise 2: "owner: 0 to 4", "grade: 0 to 2", "amount: 1 to 4000" */
    private static void storeRanges() {
        Story noCut = Story.EMPTY.and("no cut", x -> x.set(3, 0));
        noCut.answers("owner 0", x -> x.store(0, 0, 1), 0);
        noCut.answers("owner 4", x -> x.store(4, 0, 1), 0);
        noCut.answers("grade 2", x -> x.store(0, 2, 1), 0);
        noCut.answers("amount 4000", x -> x.store(0, 0, 4000), 0);
        noCut.and("4000", x -> x.store(4, 1, 4000)).answers("all of it", x -> x.receiptOf(0, 2), 4000);
        for (Story story : Story.ALL) {
            story.refuses("owner -1", x -> x.store(-1, 0, 1), Check.INVALID);
            story.refuses("owner 5", x -> x.store(5, 0, 1), Check.INVALID);
            story.refuses("grade -1", x -> x.store(0, -1, 1), Check.INVALID);
            story.refuses("grade 3", x -> x.store(0, 3, 1), Check.INVALID);
            story.refuses("amount 0", x -> x.store(0, 0, 0), Check.INVALID);
            story.refuses("amount -1", x -> x.store(0, 0, -1), Check.INVALID);
            story.refuses("amount 4001", x -> x.store(0, 0, 4001), Check.INVALID);
            story.refuses("greatest amount", x -> x.store(0, 0, MOST), Check.INVALID);
            story.refuses("least amount", x -> x.store(0, 0, LEAST), Check.INVALID);
        }
    }

    /** "a receipt is made for it less a cut (the amount times setting 3, divided by 100, rounded down)" */
    private static void storeCut() {
        int[][] cuts = {{0, 1, 0}, {0, 4000, 0}, {1, 99, 0}, {1, 100, 1}, {1, 199, 1}, {1, 200, 2}, {4, 24, 0},
            {4, 25, 1}, {4, 49, 1}, {4, 50, 2}, {4, 4000, 160}, {19, 5, 0}, {19, 6, 1}, {20, 4, 0}, {20, 5, 1},
            {20, 9, 1}, {20, 10, 2}, {20, 3999, 799}, {20, 4000, 800}};
        for (int[] row : cuts) {
            GrainReceipts x = new GrainReceipts();
            x.set(3, row[0]);
            Check.due("store", x.store(0, 1, row[1]), 0);
            Check.due(row[1] + " less " + row[0] + " of 100", x.receiptOf(0, 2), row[1] - row[2]);
            Check.due("all of it comes into the bins", x.gradeOf(1, 1), row[1]);
            Check.due("the cut is the surplus", x.gradeOf(1, 3), row[2]);
        }
    }

    /** "all of it comes into the bins of its grade, the lowest one that is not full first" */
    private static void storeLowestBinFirst() {
        Story nearly = Story.EMPTY.and("1999 of grade 1", x -> {
            x.set(3, 0);
            x.store(0, 1, 1999);
        });
        binsOf(nearly, 0, 0, 1999, 0, 0);
        binsOf(nearly.and("1 more", x -> x.store(0, 1, 1)), 0, 0, 2000, 0, 0);
        binsOf(nearly.and("2 more", x -> x.store(0, 1, 2)), 0, 0, 2000, 1, 0);
        binsOf(nearly.and("2001 more", x -> x.store(0, 1, 2001)), 0, 0, 2000, 2000, 0);
        Story upper = nearly.and("2001 more, 1999 out", x -> {
            x.store(0, 1, 2001);
            x.deliver(0);
        });
        binsOf(upper, 0, 0, 1, 2000, 0);
        binsOf(upper.and("back into the lowest", x -> x.store(0, 1, 1999)), 0, 0, 2000, 2000, 0);
        Story three = Story.EMPTY.and("bins 0, 1 and 4 of grade 0", x -> {
            x.regrade(4, 0);
            x.store(0, 0, 4000);
            x.store(0, 0, 1);
        });
        binsOf(three, 2000, 2000, 0, 0, 1);
    }

    private static void binsOf(Story story, int... amounts) {
        for (int bin = 0; bin < 5; bin++) {
            int each = bin;
            story.answers("bin " + bin, x -> x.binOf(each, 1), amounts[bin]);
        }
    }

    /** "LIMIT_REACHED if the bins of the grade have no room for all of it" */
    private static void storeRoom() {
        Story.FULL_BINS.refuses("full, grade 0", x -> x.store(0, 0, 1), Check.LIMIT);
        Story.FULL_BINS.refuses("full, grade 1", x -> x.store(0, 1, 1), Check.LIMIT);
        Story.FULL_BINS.refuses("full, grade 2", x -> x.store(0, 2, 1), Check.LIMIT);
        Story.EMPTY.answers("2000 of grade 2", x -> x.store(0, 2, 2000), 0);
        Story.EMPTY.refuses("2001 of grade 2", x -> x.store(0, 2, 2001), Check.LIMIT);
        Story.EMPTY.answers("4000 of grade 1", x -> x.store(0, 1, 4000), 0);
        Story.ONE.answers("3900 more", x -> x.store(0, 0, 3900), 1);
        Story.ONE.refuses("3901 more", x -> x.store(0, 0, 3901), Check.LIMIT);
        Story.ONE.refuses("4000 more", x -> x.store(0, 0, 4000), Check.LIMIT);
        Story.ONE.answers("other grades have room", x -> x.store(0, 1, 4000), 1);
        Story cut = Story.EMPTY.and("3999, cut", x -> {
            x.set(3, 20);
            x.store(0, 0, 3999);
        });
        cut.refuses("the cut needs room too", x -> x.store(0, 0, 2), Check.LIMIT);
        Story none = Story.EMPTY.and("no bin of grade 2", x -> x.regrade(4, 0));
        none.refuses("none of grade 2", x -> x.store(0, 2, 1), Check.LIMIT);
        none.answers("three bins of grade 0", x -> x.gradeOf(0, 4), 6000);
        Story four = none.and("4000 of 6000", x -> x.store(0, 0, 4000));
        four.answers("the rest", x -> x.store(0, 0, 2000), 1);
        four.refuses("more than the rest", x -> x.store(0, 0, 2001), Check.LIMIT);
    }

    /** "INVALID_ARGUMENT if an argument is out of range; LIMIT_REACHED if .. no room .., or there are 16 receipts" */
    private static void storeErrors() {
        Story.SIXTEEN.refuses("16, with room", x -> x.store(0, 0, 1), Check.LIMIT);
        Story.SIXTEEN.refuses("16, and no room", x -> x.store(0, 2, 2001), Check.LIMIT);
        Story.SIXTEEN.refuses("16, and out of range", x -> x.store(0, 2, 4001), Check.INVALID);
        Story.FULL_BINS.refuses("no room, and out of range", x -> x.store(5, 2, 1), Check.INVALID);
    }

    /** Promise 3: "amount: 1 or more", "NOT_POSSIBLE if amount is not less than that of the receipt" */
    private static void splitRanges() {
        Story.ONE.answers("1", x -> x.split(0, 1), 1);
        Story.ONE.answers("all but 1", x -> x.split(0, 99), 1);
        Story.ONE.refuses("all", x -> x.split(0, 100), Check.NOT_POSSIBLE);
        Story.ONE.refuses("more", x -> x.split(0, 101), Check.NOT_POSSIBLE);
        Story.ONE.refuses("most", x -> x.split(0, MOST), Check.NOT_POSSIBLE);
        Story.ONE.refuses("0", x -> x.split(0, 0), Check.INVALID);
        Story.ONE.refuses("-1", x -> x.split(0, -1), Check.INVALID);
        Story.ONE.refuses("least", x -> x.split(0, LEAST), Check.INVALID);
        Story one = Story.EMPTY.and("a receipt of 1", x -> x.store(0, 0, 1));
        one.refuses("1 of 1", x -> x.split(0, 1), Check.NOT_POSSIBLE);
        Story two = Story.EMPTY.and("a receipt of 2", x -> x.store(3, 2, 2));
        two.answers("1 of 2", x -> x.split(0, 1), 1);
        Story halves = two.and("halves", x -> x.split(0, 1));
        halves.answers("old", x -> x.receiptOf(0, 2), 1);
        halves.answers("new", x -> x.receiptOf(1, 2), 1);
        halves.answers("the same owner", x -> x.receiptOf(1, 0), 3);
        halves.answers("the same grade", x -> x.receiptOf(1, 1), 2);
        halves.answers("no pledge", x -> x.receiptOf(1, 4), Check.NOT_FOUND);
        Story.SIXTEEN.refuses("16 and too much", x -> x.split(0, 10), Check.NOT_POSSIBLE);
        Story.SIXTEEN.refuses("16 and 0", x -> x.split(0, 0), Check.INVALID);
        Story.SIXTEEN.refuses("16", x -> x.split(0, 9), Check.LIMIT);
    }

    /** "(the loan times the amount .. divided by the whole amount ahead of the split, rounded down) as its loan (if
     *  this is 0, it is not pledged); the rest of the loan stays" */
    private static void splitLoans() {
        int[][] rows = {{700, 50, 350}, {1, 99, 0}, {1, 1, 0}, {2, 49, 0}, {2, 50, 1}, {2, 99, 1}, {100, 1, 1},
            {99, 1, 0}, {101, 99, 99}, {102, 99, 100}, {700, 1, 7}, {699, 1, 6}, {700, 99, 693}, {3, 33, 0},
            {3, 34, 1}, {3, 66, 1}, {3, 67, 2}};
        for (int[] row : rows) {
            GrainReceipts x = Story.ONE.tell();
            Check.due("pledge", x.pledge(0, 2, row[0]), row[0]);
            Check.due("split", x.split(0, row[1]), 1);
            String of = row[1] + " of 100 for " + row[0];
            Check.due("loan of " + of, x.receiptOf(1, 5), row[2] == 0 ? Check.NOT_FOUND : row[2]);
            Check.due("lender of " + of, x.receiptOf(1, 4), row[2] == 0 ? Check.NOT_FOUND : 2);
            Check.due("rest of the loan", x.receiptOf(0, 5), row[0] - row[2]);
            Check.due("lender of the rest", x.receiptOf(0, 4), 2);
            Check.due("money stays", x.ownerOf(0, 0), row[0]);
            Check.due("pledges", x.lenderOf(2, 0), row[2] == 0 ? 1 : 2);
            Check.due("loans", x.lenderOf(2, 1), row[0]);
        }
    }

    /** "exactly, also beyond an int": 990000 times 9999 is more than four turns of an int. */
    private static void splitBeyondInt() {
        int[][] rows = {{990000, 9999}, {990000, 5000}, {990000, 2170}, {990000, 2169}, {989999, 9998}, {987654, 4339},
            {214749, 9999}, {429497, 5001}, {214748, 9999}};
        for (int[] row : rows) {
            GrainReceipts x = Story.GREATEST.tell();
            x.set(0, 100);
            x.price(2, 99);
            Check.due("pledge", x.pledge(0, 0, row[0]), row[0]);
            Check.due("split", x.split(0, row[1]), 3);
            int loan = (int) ((long) row[0] * row[1] / 10000);
            Check.due("loan of " + row[1] + " of 10000 for " + row[0], x.receiptOf(3, 5), loan);
            Check.due("rest of it", x.receiptOf(0, 5), row[0] - loan);
        }
    }

    /** "A call stays with the old one alone." */
    private static void splitCalls() {
        Story day = Story.CALLED.and("a day later, split", x -> {
            x.pass(1);
            x.split(0, 40);
        });
        day.answers("days of the old one", x -> x.receiptOf(0, 6), 2);
        day.answers("no call of the new one", x -> x.receiptOf(1, 6), Check.NOT_FOUND);
        day.answers("both are pledged", x -> x.lenderOf(0, 0), 2);
        day.answers("one is called", x -> x.lenderOf(0, 3), 1);
        day.answers("the old one alone is seized", x -> x.pass(99), 1);
        Story tiny = Story.CALLED.and("split to the new one's favour", x -> {
            x.repay(0, 249);
            x.split(0, 99);
        });
        tiny.answers("451 of 100 leaves 5 for 1", x -> x.receiptOf(0, 5), 5);
        tiny.answers("the call is not over by a split", x -> x.receiptOf(0, 6), 3);
    }

    /** Promise 4: "into: number of another one", "NOT_POSSIBLE if owners or grades are unlike, or one of both is
     *  pledged" */
    private static void joinEdges() {
        Story four = Story.EMPTY.and("like, like, other owner, other grade", x -> {
            x.set(3, 0);
            x.store(0, 0, 10);
            x.store(0, 0, 20);
            x.store(1, 0, 30);
            x.store(0, 1, 40);
        });
        four.answers("join", x -> x.join(0, 1), 30);
        four.answers("the other way", x -> x.join(1, 0), 30);
        four.and("joined", x -> x.join(0, 1)).answers("the former is gone", x -> x.receipt(0), 1);
        four.and("joined", x -> x.join(1, 0)).answers("the latter stays", x -> x.receipt(0), 0);
        four.refuses("itself", x -> x.join(0, 0), Check.INVALID);
        four.refuses("other owner", x -> x.join(0, 2), Check.NOT_POSSIBLE);
        four.refuses("other owner, the other way", x -> x.join(2, 0), Check.NOT_POSSIBLE);
        four.refuses("other grade", x -> x.join(0, 3), Check.NOT_POSSIBLE);
        four.refuses("other grade, the other way", x -> x.join(3, 0), Check.NOT_POSSIBLE);
        Story first = four.and("the first is pledged", x -> x.pledge(0, 0, 1));
        first.refuses("pledged", x -> x.join(0, 1), Check.NOT_POSSIBLE);
        first.refuses("into a pledged one", x -> x.join(1, 0), Check.NOT_POSSIBLE);
        first.refuses("itself, pledged", x -> x.join(0, 0), Check.INVALID);
        Story both = first.and("both are", x -> x.pledge(1, 0, 1));
        both.refuses("both pledged", x -> x.join(0, 1), Check.NOT_POSSIBLE);
        both.and("paid", x -> {
            x.repay(0, 1);
            x.repay(1, 1);
        }).answers("not pledged any more", x -> x.join(0, 1), 30);
        Story.GREATEST.answers("the greatest", x -> x.receiptOf(0, 2), 10000);
        Story.SIXTEEN.answers("of 16", x -> x.join(15, 0), 20);
    }

    /** Promise 5: "owner: 0 to 7, another one", "NOT_POSSIBLE if it is the owner already, or the receipt is pledged" */
    private static void handEdges() {
        Story.ONE.answers("to 7", x -> x.hand(0, 7), 0);
        Story.ONE.and("handed", x -> x.hand(0, 7)).answers("back to 0", x -> x.hand(0, 0), 7);
        Story.ONE.refuses("to 8", x -> x.hand(0, 8), Check.INVALID);
        Story.ONE.refuses("to -1", x -> x.hand(0, -1), Check.INVALID);
        Story.ONE.refuses("to its owner", x -> x.hand(0, 0), Check.NOT_POSSIBLE);
        Story.PLEDGED.refuses("pledged", x -> x.hand(0, 1), Check.NOT_POSSIBLE);
        Story.PLEDGED.refuses("pledged, to its lender", x -> x.hand(0, 5), Check.NOT_POSSIBLE);
        Story.PLEDGED.refuses("pledged, to its owner", x -> x.hand(0, 0), Check.NOT_POSSIBLE);
        Story.PLEDGED.refuses("pledged, to 8", x -> x.hand(0, 8), Check.INVALID);
        Story.SEIZED.answers("seized", x -> x.hand(0, 0), 5);
        Story.SEIZED.refuses("seized, to its owner", x -> x.hand(0, 5), Check.NOT_POSSIBLE);
    }

    /** Promise 6: "out of the bins of its grade, the lowest one first" */
    private static void deliverBins() {
        Story two = Story.EMPTY.and("both bins", x -> {
            x.set(3, 0);
            x.store(0, 1, 1999);
            x.store(0, 1, 1);
            x.store(0, 1, 1);
        });
        Story swapped = two.and("1999 out", x -> x.deliver(0));
        binsOf(two, 0, 0, 2000, 1, 0);
        binsOf(swapped, 0, 0, 1, 1, 0);
        binsOf(swapped.and("1 out", x -> x.deliver(1)), 0, 0, 0, 1, 0);
        Story joined = two.and("joined", x -> {
            x.join(1, 0);
            x.deliver(0);
        });
        binsOf(joined, 0, 0, 0, 1, 0);
        Story all = two.and("all in one", x -> {
            x.join(1, 0);
            x.join(2, 0);
        });
        all.answers("over both bins", x -> x.deliver(0), 0);
        binsOf(all.and("delivered", x -> x.deliver(0)), 0, 0, 0, 0, 0);
        Story.GREATEST.answers("over all bins", x -> x.deliver(0), 0);
        Story.GREATEST.and("delivered", x -> x.deliver(0)).answers("all is out", x -> x.count(2), 0);
        Story.GREATEST.and("delivered", x -> x.deliver(0)).answers("delivered", x -> x.count(6), 10000);
        for (int receipt = 0; receipt < 3; receipt++) {
            int each = receipt;
            Story.FULL_BINS.answers("full bins", x -> x.deliver(each), 0);
        }
    }

    /** "and then, if they do not have enough, out of those of the next better grade, and so on" */
    private static void deliverBetter() {
        for (int short1 = 0; short1 < 2; short1++) {
            for (int short2 = 0; short2 < 2; short2++) {
                deliverBetter(short1, short2);
            }
        }
        GrainReceipts x = shortOf(50, 50);
        Check.due("both grades are empty for it", x.deliver(2), 50);
        Check.due("next better is empty already", x.binOf(2, 1), 0);
        Check.due("out of grade 0", x.binOf(0, 1), 1950 - 50);
        Check.due("lower grades first", x.deliver(1), 50);
        GrainReceipts y = shortOf(50, 0);
        Check.due("not out of a worse grade", y.deliver(1), 50);
        Check.due("which stays", y.binOf(4, 1), 50);
        Check.due("but out of the better one", y.binOf(0, 1), 1900);
    }

    private static void deliverBetter(int short1, int short2) {
        GrainReceipts x = shortOf(short1, short2);
        Check.due("better for grade 2", x.deliver(2), short2);
        Check.due("out of the next better", x.binOf(2, 1), 50 - short1 - short2);
        Check.due("not out of the best", x.binOf(0, 1), 1950);
        Check.due("better for grade 1", x.deliver(1), short1 + short2);
        Check.due("no grade 1 is left", x.binOf(2, 1), 0);
        Check.due("the rest out of the best", x.binOf(0, 1), 1950 - short1 - short2);
    }

    /** Receipts 1 and 2 of 50 of the grades 1 and 2, whose bins have less; the grade 0 has a surplus of 350. */
    private static GrainReceipts shortOf(int short1, int short2) {
        GrainReceipts x = new GrainReceipts();
        x.set(3, 20);
        x.store(0, 0, 2000);
        x.set(3, 0);
        x.store(0, 1, 50);
        x.store(0, 2, 50);
        x.lose(0, 50);
        if (short1 > 0) {
            x.lose(2, short1);
        }
        if (short2 > 0) {
            x.lose(4, short2);
        }
        return x;
    }

    /** "INVALID_ARGUMENT; NOT_POSSIBLE if it is pledged" */
    private static void deliverErrors() {
        Story.PLEDGED.refuses("pledged", x -> x.deliver(0), Check.NOT_POSSIBLE);
        Story.CALLED.refuses("called", x -> x.deliver(0), Check.NOT_POSSIBLE);
        Story.SEIZED.answers("seized", x -> x.deliver(0), 0);
        Story paid = Story.PLEDGED.and("all is paid", x -> x.repay(0, 700));
        paid.answers("paid", x -> x.deliver(0), 0);
        Story most = Story.PLEDGED.and("1 is not paid", x -> x.repay(0, 699));
        most.refuses("1 is left", x -> x.deliver(0), Check.NOT_POSSIBLE);
        Story.ONE.and("delivered", x -> x.deliver(0)).refuses("twice", x -> x.deliver(0), Check.INVALID);
    }
}
