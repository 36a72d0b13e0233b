/** The edges that the promises 15 to 22 name: the sentence stands above its test. */
public final class QuestionEdgeTest {
    private static final int MOST = Integer.MAX_VALUE;
    private static final int LEAST = Integer.MIN_VALUE;

    public static void main(String[] args) {
        receiptOfRanges();
        receiptOfNotFound();
        receiptOfGreatestLoan();
        receiptOfToPay();
        receiptOfBits();
        receiptIndexes();
        binOfRanges();
        binOfLoss();
        gradeOfRanges();
        gradeOfRoom();
        gradeOfSums();
        ownerOfRanges();
        ownerOfSums();
        lenderOfRanges();
        lenderOfSums();
        lenderOfWouldCall();
        fallToRanges();
        fallToFinds();
        fallToGreatest();
        countRanges();
        countsFullAndEmpty();
        Check.end();
    }

    /** Promise 15: "what: 0 .. 9", "INVALID_ARGUMENT if an argument is out of range" */
    private static void receiptOfRanges() {
        Story.ONE.answers("what 0", x -> x.receiptOf(0, 0), 0);
        Story.ONE.answers("what 9", x -> x.receiptOf(0, 9), 0);
        for (int what : new int[] {-1, 10, MOST, LEAST}) {
            Story.ONE.refuses("what " + what, x -> x.receiptOf(0, what), Check.INVALID);
            Story.CALLED.refuses("what " + what, x -> x.receiptOf(0, what), Check.INVALID);
            Story.ONE.refuses("neither, what " + what, x -> x.receiptOf(1, what), Check.INVALID);
        }
        for (int what = 0; what < 10; what++) {
            int each = what;
            Story.ONE.refuses("receipt 1", x -> x.receiptOf(1, each), Check.INVALID);
            Story.ONE.refuses("receipt -1", x -> x.receiptOf(-1, each), Check.INVALID);
        }
        Story.SIXTEEN.answers("the last one", x -> x.receiptOf(15, 2), 10);
        Story.SIXTEEN.refuses("behind the last one", x -> x.receiptOf(16, 2), Check.INVALID);
    }

    /** "NOT_FOUND for 4 and 5 if it is not pledged, for 6 if it is not called" */
    private static void receiptOfNotFound() {
        Story.ONE.refuses("no lender", x -> x.receiptOf(0, 4), Check.NOT_FOUND);
        Story.ONE.refuses("no loan", x -> x.receiptOf(0, 5), Check.NOT_FOUND);
        Story.ONE.refuses("no days", x -> x.receiptOf(0, 6), Check.NOT_FOUND);
        Story.PLEDGED.answers("lender 0", x -> x.receiptOf(0, 4), 0);
        Story.PLEDGED.answers("loan", x -> x.receiptOf(0, 5), 700);
        Story.PLEDGED.refuses("pledged, not called", x -> x.receiptOf(0, 6), Check.NOT_FOUND);
        Story.CALLED.answers("called", x -> x.receiptOf(0, 6), 3);
        for (int what = 4; what < 7; what++) {
            int each = what;
            Story.SEIZED.refuses("seized " + what, x -> x.receiptOf(0, each), Check.NOT_FOUND);
            Story.PLEDGED.and("paid", x -> x.repay(0, 700))
                    .refuses("paid " + what, x -> x.receiptOf(0, each), Check.NOT_FOUND);
        }
    }

    /** "7: the greatest loan that it could have": also of one that has a loan, and 0 if none is small enough */
    private static void receiptOfGreatestLoan() {
        Story.ONE.answers("without a loan", x -> x.receiptOf(0, 7), 700);
        Story.PLEDGED.answers("with a loan", x -> x.receiptOf(0, 7), 700);
        Story.CALLED.answers("below its loan", x -> x.receiptOf(0, 7), 350);
        Story least = Story.EMPTY.and("1 at 1", x -> {
            x.store(0, 0, 1);
            x.price(2, 1);
        });
        least.answers("none", x -> x.receiptOf(0, 7), 0);
        least.refuses("not even 1", x -> x.pledge(0, 0, 1), Check.NOT_POSSIBLE);
        Story.GREATEST.and("dear", x -> x.price(2, 99)).answers("most at 70", x -> x.receiptOf(0, 7), 693000);
    }

    /** "8: how much would have to be paid back so that its loan is not above what calls it (0 if it is not)" */
    private static void receiptOfToPay() {
        Story.ONE.answers("without a loan", x -> x.receiptOf(0, 8), 0);
        Story.PLEDGED.answers("below", x -> x.receiptOf(0, 8), 0);
        Story.PLEDGED.and("share 70", x -> x.set(1, 70)).answers("equal", x -> x.receiptOf(0, 8), 0);
        Story.PLEDGED.and("share 69", x -> x.set(1, 69)).answers("above, not called", x -> x.receiptOf(0, 8), 10);
        Story.CALLED.answers("called", x -> x.receiptOf(0, 8), 250);
        Story.CALLED.and("249 paid", x -> x.repay(0, 249)).answers("1 is left", x -> x.receiptOf(0, 8), 1);
        Story.CALLED.and("250 paid", x -> x.repay(0, 250)).answers("0 is left", x -> x.receiptOf(0, 8), 0);
        Story rounded = Story.EMPTY.and("loan 7 of 10 at 1: it may be 0.9, so 0", x -> {
            x.set(3, 0);
            x.store(0, 0, 1);
            x.pledge(0, 0, 7);
            x.price(2, 1);
        });
        rounded.answers("all of it", x -> x.receiptOf(0, 8), 7);
        rounded.answers("all but 1 is not enough", x -> x.repay(0, 6), 1);
        rounded.and("6 paid", x -> x.repay(0, 6)).answers("1 is above 0", x -> x.call(0), 1);
    }

    /** "9: the bits of its loan (0 without), as a float, divided by its worth, as a float" */
    private static void receiptOfBits() {
        Story.ONE.answers("without", x -> x.receiptOf(0, 9), 0);
        Story.SEIZED.answers("seized", x -> x.receiptOf(0, 9), 0);
        Story.PLEDGED.answers("0.7", x -> x.receiptOf(0, 9), Float.floatToIntBits(700f / 1000f));
        Story.CALLED.answers("1.4", x -> x.receiptOf(0, 9), Float.floatToIntBits(700f / 500f));
        Story whole = Story.ONE.and("a share of 100", x -> x.set(0, 100));
        whole.and("all", x -> x.pledge(0, 0, 1000)).answers("1", x -> x.receiptOf(0, 9), 0x3f800000);
        whole.and("half", x -> x.pledge(0, 0, 500)).answers("0.5", x -> x.receiptOf(0, 9), 0x3f000000);
        whole.and("all, cheap", x -> {
            x.pledge(0, 0, 1000);
            x.price(2, 5);
        }).answers("2", x -> x.receiptOf(0, 9), 0x40000000);
        Story dear = Story.GREATEST.and("dear", x -> {
            x.set(0, 100);
            x.price(2, 99);
        });
        dear.and("1", x -> x.pledge(0, 0, 1)).answers("the least", x -> x.receiptOf(0, 9),
                Float.floatToIntBits(1f / 990000f));
        Story most = dear.and("990000", x -> x.pledge(0, 0, 990000));
        most.answers("1 of the greatest", x -> x.receiptOf(0, 9), 0x3f800000);
        most.and("cheap", x -> x.price(2, 1)).answers("the greatest: 99", x -> x.receiptOf(0, 9), 0x42c60000);
        dear.and("989999", x -> x.pledge(0, 0, 989999)).answers("just below 1", x -> x.receiptOf(0, 9),
                Float.floatToIntBits(989999f / 990000f));
    }

    /** Promise 16: "index: 0 for the one with the lowest number", "INVALID_ARGUMENT if index is negative; NOT_FOUND if
     *  there are not so many" */
    private static void receiptIndexes() {
        Story.EMPTY.refuses("none", x -> x.receipt(0), Check.NOT_FOUND);
        Story.EMPTY.refuses("none, -1", x -> x.receipt(-1), Check.INVALID);
        Story.ONE.answers("the only one", x -> x.receipt(0), 0);
        Story.ONE.refuses("1 of 1", x -> x.receipt(1), Check.NOT_FOUND);
        Story.SIXTEEN.answers("15 of 16", x -> x.receipt(15), 15);
        for (int index : new int[] {16, 17, MOST}) {
            Story.SIXTEEN.refuses("index " + index, x -> x.receipt(index), Check.NOT_FOUND);
        }
        for (int index : new int[] {-1, LEAST}) {
            Story.SIXTEEN.refuses("index " + index, x -> x.receipt(index), Check.INVALID);
        }
        Story gaps = Story.SIXTEEN.and("0 and 7 gone, 16 and 17 made", x -> {
            x.deliver(0);
            x.deliver(7);
            x.split(15, 1);
            x.store(0, 2, 1);
        });
        for (int index = 0; index < 16; index++) {
            int each = index;
            gaps.answers("index " + index, x -> x.receipt(each), index + (index < 6 ? 1 : 2));
        }
        gaps.refuses("index 16", x -> x.receipt(16), Check.NOT_FOUND);
        Story.ONE.and("delivered", x -> x.deliver(0)).refuses("none again", x -> x.receipt(0), Check.NOT_FOUND);
    }

    /** Promise 17: "bin: 0 to 4", "what: 0 .. 2" */
    private static void binOfRanges() {
        for (int bin = 0; bin < 5; bin++) {
            int each = bin;
            for (int what : new int[] {-1, 3, MOST, LEAST}) {
                Story.FULL_BINS.refuses("what " + what, x -> x.binOf(each, what), Check.INVALID);
            }
            Story.FULL_BINS.answers("amount", x -> x.binOf(each, 1), 2000);
            Story.EMPTY.answers("amount", x -> x.binOf(each, 1), 0);
        }
        for (int bin : new int[] {-1, 5, MOST, LEAST}) {
            for (int what = 0; what < 3; what++) {
                int each = what;
                Story.FULL_BINS.refuses("bin " + bin, x -> x.binOf(bin, each), Check.INVALID);
            }
        }
    }

    /** "2: how much it could lose at most" */
    private static void binOfLoss() {
        for (Story story : Story.ALL) {
            for (int bin = 0; bin < 5; bin++) {
                int each = bin;
                int most = story.tell().binOf(bin, 2);
                int has = story.tell().binOf(bin, 1);
                story.refuses("1 more", x -> x.lose(each, most + 1), Check.NOT_POSSIBLE);
                if (most > 0) {
                    story.answers("just that", x -> x.lose(each, most), has - most);
                    story.and("lost", x -> x.lose(each, most)).answers("none is left", x -> x.binOf(each, 2), 0);
                }
            }
        }
        Story.EMPTY.answers("nothing of nothing", x -> x.binOf(0, 2), 0);
        Story.ONE.answers("nothing of a covering bin", x -> x.binOf(0, 2), 0);
        Story.MIXED.answers("the surplus of bin 0", x -> x.binOf(0, 2), 140);
        Story all = Story.ONE.and("20 of 100 are cut, 80 out", x -> {
            x.deliver(0);
            x.set(3, 20);
            x.store(0, 0, 100);
            x.deliver(1);
        });
        all.answers("all that it has", x -> x.binOf(0, 2), 20);
    }

    /** Promise 18: "grade: 0 to 2", "what: 0 .. 4" */
    private static void gradeOfRanges() {
        for (int grade = 0; grade < 3; grade++) {
            int each = grade;
            for (int what : new int[] {-1, 5, MOST, LEAST}) {
                Story.MIXED.refuses("what " + what, x -> x.gradeOf(each, what), Check.INVALID);
            }
        }
        for (int grade : new int[] {-1, 3, MOST, LEAST}) {
            for (int what = 0; what < 5; what++) {
                int each = what;
                Story.MIXED.refuses("grade " + grade, x -> x.gradeOf(grade, each), Check.INVALID);
            }
        }
        Story.EMPTY.answers("what 0 of grade 0", x -> x.gradeOf(0, 0), 30);
        Story.EMPTY.answers("what 4 of grade 2", x -> x.gradeOf(2, 4), 2000);
    }

    /** "4: the room that is left in its bins" */
    private static void gradeOfRoom() {
        int[] rooms = {4000, 4000, 2000};
        for (int grade = 0; grade < 3; grade++) {
            int each = grade;
            Story.EMPTY.answers("empty", x -> x.gradeOf(each, 4), rooms[grade]);
            Story.FULL_BINS.answers("full", x -> x.gradeOf(each, 4), 0);
            Story.FULL_BINS.and("out", x -> x.deliver(each)).answers("empty again", x -> x.gradeOf(each, 4), rooms[grade]);
        }
        Story.GREATEST.answers("full, 5 bins", x -> x.gradeOf(0, 4), 0);
        Story.GREATEST.answers("no bin", x -> x.gradeOf(1, 4), 0);
        Story.GREATEST.and("out", x -> x.deliver(0)).answers("5 empty bins", x -> x.gradeOf(0, 4), 10000);
        Story.ONE.answers("some", x -> x.gradeOf(0, 4), 3900);
        Story.ONE.answers("just the room", x -> x.store(0, 0, 3900), 1);
        Story.ONE.refuses("1 more than the room", x -> x.store(0, 0, 3901), Check.LIMIT);
    }

    /** "1: how much the bins of it have; 2: how much the receipts of it have; 3: the surplus" */
    private static void gradeOfSums() {
        int[] full = {4000, 4000, 2000};
        for (int grade = 0; grade < 3; grade++) {
            int each = grade;
            for (int what = 1; what < 4; what++) {
                int told = what;
                Story.EMPTY.answers("empty " + what, x -> x.gradeOf(each, told), 0);
                Story.FULL_BINS.answers("full " + what, x -> x.gradeOf(each, told), what == 3 ? 0 : full[grade]);
            }
        }
        Story.GREATEST.answers("grain of all bins", x -> x.gradeOf(0, 1), 10000);
        Story.GREATEST.answers("receipts", x -> x.gradeOf(0, 2), 10000);
        Story.GREATEST.answers("none of grade 2", x -> x.gradeOf(2, 1), 0);
        Story.SIXTEEN.answers("16 receipts", x -> x.gradeOf(0, 2), 160);
        Story.MIXED.answers("surplus 0", x -> x.gradeOf(0, 3), 140);
        Story.MIXED.answers("surplus 1 has that of 0 too", x -> x.gradeOf(1, 3), 228);
        Story.MIXED.answers("surplus 2 has those of 0 and 1 too", x -> x.gradeOf(2, 3), 251);
    }

    /** Promise 19: "owner: 0 to 7", "what: 0 .. 4" */
    private static void ownerOfRanges() {
        for (int owner = 0; owner < 8; owner++) {
            int each = owner;
            for (int what : new int[] {-1, 5, MOST, LEAST}) {
                Story.MIXED.refuses("what " + what, x -> x.ownerOf(each, what), Check.INVALID);
            }
            for (int what = 0; what < 5; what++) {
                int told = what;
                Story.EMPTY.answers("nothing", x -> x.ownerOf(each, told), 0);
            }
        }
        for (int owner : new int[] {-1, 8, MOST, LEAST}) {
            for (int what = 0; what < 5; what++) {
                int each = what;
                Story.MIXED.refuses("owner " + owner, x -> x.ownerOf(owner, each), Check.INVALID);
            }
        }
    }

    /** "1: how many receipts; 2: their amounts together; 3: their loans together; 4: its net worth" */
    private static void ownerOfSums() {
        Story.SIXTEEN.answers("16", x -> x.ownerOf(0, 1), 16);
        Story.SIXTEEN.answers("160", x -> x.ownerOf(0, 2), 160);
        Story.SIXTEEN.answers("no loans", x -> x.ownerOf(0, 3), 0);
        Story.SIXTEEN.answers("at the price of grade 0", x -> x.ownerOf(0, 4), 4800);
        Story loans = Story.SIXTEEN.and("two loans", x -> {
            x.pledge(0, 0, 70);
            x.pledge(15, 2, 50);
            x.repay(15, 1);
        });
        loans.answers("loans", x -> x.ownerOf(0, 3), 119);
        loans.answers("a loan makes nobody richer", x -> x.ownerOf(0, 4), 4800);
        Story.SEIZED.answers("money without its receipt", x -> x.ownerOf(0, 4), 700);
        Story.SEIZED.answers("the lender's receipt", x -> x.ownerOf(5, 4), 3000);
        Story most = Story.GREATEST.and("dear", x -> {
            x.set(0, 100);
            x.price(0, 99);
            x.price(2, 99);
            x.pledge(0, 0, 990000);
        });
        most.answers("the greatest", x -> x.ownerOf(0, 4), 990000);
        most.and("cheap", x -> x.price(0, 1)).answers("net worth of 10000 at 1", x -> x.ownerOf(0, 4), 10000);
        int[] worths = {120000, 80000, 20000};
        for (int owner = 0; owner < 3; owner++) {
            int each = owner;
            Story.FULL_BINS.answers("each grade at its price", x -> x.ownerOf(each, 4), worths[owner]);
        }
    }

    /** Promise 20: "lender: 0 to 2", "what: 0 .. 5" */
    private static void lenderOfRanges() {
        for (int lender = 0; lender < 3; lender++) {
            int each = lender;
            for (int what : new int[] {-1, 6, MOST, LEAST}) {
                Story.MIXED.refuses("what " + what, x -> x.lenderOf(each, what), Check.INVALID);
            }
            for (int what = 0; what < 6; what++) {
                int told = what;
                Story.EMPTY.answers("nothing", x -> x.lenderOf(each, told), 0);
                Story.ONE.answers("not pledged", x -> x.lenderOf(each, told), 0);
            }
        }
        for (int lender : new int[] {-1, 3, 5, MOST, LEAST}) {
            for (int what = 0; what < 6; what++) {
                int each = what;
                Story.MIXED.refuses("lender " + lender, x -> x.lenderOf(lender, each), Check.INVALID);
            }
        }
    }

    /** "0: how many receipts are pledged to it; 1: the loans together; 2: the worths of these receipts together; 3:
     *  how many of them are called; 4: the sum of the loans that were seized so far" */
    private static void lenderOfSums() {
        int[] one = {1, 700, 1000, 0, 0, 0};
        int[] called = {1, 700, 500, 1, 0, 0};
        int[] seized = {0, 0, 0, 0, 700, 0};
        for (int what = 0; what < 6; what++) {
            int each = what;
            Story.PLEDGED.answers("pledged " + what, x -> x.lenderOf(0, each), one[what]);
            Story.CALLED.answers("called " + what, x -> x.lenderOf(0, each), called[what]);
            Story.SEIZED.answers("seized " + what, x -> x.lenderOf(0, each), seized[what]);
            Story.CALLED.answers("of another " + what, x -> x.lenderOf(1, each), 0);
        }
        Story all = Story.SIXTEEN.and("16 pledged", x -> {
            for (int i = 0; i < 16; i++) {
                x.pledge(i, 1, 70);
            }
        });
        int[] most = {16, 1120, 1600, 0, 0, 0};
        for (int what = 0; what < 6; what++) {
            int each = what;
            all.answers("16 " + what, x -> x.lenderOf(1, each), most[what]);
        }
        Story cheap = all.and("cheap", x -> x.price(2, 1));
        cheap.answers("16 would be called", x -> x.lenderOf(1, 5), 16);
        cheap.and("called", x -> x.call(1)).answers("16 are called", x -> x.lenderOf(1, 3), 16);
        Story dear = Story.GREATEST.and("dear", x -> {
            x.set(0, 100);
            x.price(2, 99);
            x.pledge(0, 2, 990000);
        });
        dear.answers("the greatest loans", x -> x.lenderOf(2, 1), 990000);
        dear.answers("the greatest worths", x -> x.lenderOf(2, 2), 990000);
    }

    /** "5: how many would be called if it called now" */
    private static void lenderOfWouldCall() {
        for (Story story : Story.ALL) {
            for (int lender = 0; lender < 3; lender++) {
                for (int price = 1; price < 12; price++) {
                    int each = lender;
                    int at = price;
                    Story priced = story.and(story.name + " at " + price, x -> x.price(2, at));
                    int would = priced.tell().lenderOf(lender, 5);
                    priced.answers("calls as many", x -> x.call(each), would);
                }
            }
        }
        Story cheap = Story.PLEDGED.and("cheap", x -> x.price(2, 5));
        cheap.answers("one", x -> x.lenderOf(0, 5), 1);
        cheap.answers("none of another", x -> x.lenderOf(1, 5), 0);
        Story.CALLED.answers("not one that is called", x -> x.lenderOf(0, 5), 0);
    }

    /** Promise 21: "lender: 0 to 2", "NOT_FOUND if there is none" */
    private static void fallToRanges() {
        for (Story story : new Story[] {Story.EMPTY, Story.PLEDGED, Story.CALLED}) {
            for (int lender : new int[] {-1, 3, 5, MOST, LEAST}) {
                story.refuses("lender " + lender, x -> x.fallTo(lender), Check.INVALID);
            }
            story.refuses("without a pledge", x -> x.fallTo(1), Check.NOT_FOUND);
            story.refuses("without a pledge", x -> x.fallTo(2), Check.NOT_FOUND);
        }
        Story.EMPTY.refuses("none", x -> x.fallTo(0), Check.NOT_FOUND);
        Story.CALLED.refuses("called already", x -> x.fallTo(0), Check.NOT_FOUND);
        Story.SEIZED.refuses("seized", x -> x.fallTo(0), Check.NOT_FOUND);
        Story.PLEDGED.answers("one", x -> x.fallTo(0), 7);
    }

    /** "Returns the price, 1 to 99": at it the lender calls, and at the next one it does not */
    private static void fallToFinds() {
        // loan, setting 1, the price for 100 of grain
        int[][] rows = {{90, 90, 0}, {91, 90, 1}, {180, 90, 1}, {181, 90, 2}, {10, 10, 0}, {11, 10, 1}, {700, 10, 69},
            {990, 10, 98}, {991, 10, 99}, {1000, 10, 99}, {9900, 10, 99}, {9900, 100, 98}, {9900, 150, 65},
            {150, 150, 0}, {151, 150, 1}, {8910, 90, 98}, {8911, 90, 99}};
        for (int[] row : rows) {
            Story story = Story.ONE.and("loan " + row[0] + ", share " + row[1], x -> {
                x.set(0, 100);
                x.price(2, 99);
                x.pledge(0, 1, row[0]);
                x.set(1, row[1]);
            });
            int found = row[2];
            story.answers("price", x -> x.fallTo(1), found == 0 ? Check.NOT_FOUND : found);
            if (found > 0) {
                story.and("at it", x -> x.price(2, found)).answers("calls", x -> x.call(1), 1);
            }
            if (found < 99) {
                story.and("at the next", x -> x.price(2, found + 1)).answers("does not call", x -> x.call(1), 0);
            }
        }
    }

    /** "the greatest price of the grade 2 at which a lender would call some receipt that is not called now" */
    private static void fallToGreatest() {
        Story two = Story.SIXTEEN.and("loans 70 and 63 of 10", x -> {
            x.pledge(15, 0, 70);
            x.pledge(3, 0, 63);
        });
        two.answers("of both", x -> x.fallTo(0), 7);
        Story called = two.and("one is called", x -> {
            x.price(2, 7);
            x.call(0);
        });
        called.answers("of the other", x -> x.fallTo(0), 6);
        called.and("dear", x -> x.price(2, 99)).answers("called still", x -> x.fallTo(0), 6);
        called.and("cheap", x -> x.price(2, 1)).answers("above the price now", x -> x.fallTo(0), 6);
        called.and("over", x -> {
            x.price(2, 99);
            x.pass(1);
        }).answers("of both again", x -> x.fallTo(0), 7);
        Story none = Story.GREATEST.and("a little of the greatest", x -> x.pledge(0, 0, 9000));
        none.refuses("not even at 1", x -> x.fallTo(0), Check.NOT_FOUND);
        Story most = Story.GREATEST.and("9001", x -> x.pledge(0, 0, 9001));
        most.answers("at 1", x -> x.fallTo(0), 1);
    }

    /** Promise 22: "what: 0 .. 9; 20 to 23", "INVALID_ARGUMENT if what is out of range" */
    private static void countRanges() {
        int[] settings = {70, 90, 3, 4};
        for (int what = 0; what < 10; what++) {
            int each = what;
            Story.EMPTY.answers("what " + what, x -> x.count(each), 0);
        }
        for (int what = 20; what < 24; what++) {
            int each = what;
            Story.EMPTY.answers("what " + what, x -> x.count(each), settings[what - 20]);
        }
        for (int what = 10; what < 20; what++) {
            int each = what;
            Story.MIXED.refuses("what " + what, x -> x.count(each), Check.INVALID);
        }
        for (int what : new int[] {-1, 24, 25, MOST, LEAST}) {
            Story.MIXED.refuses("what " + what, x -> x.count(what), Check.INVALID);
        }
    }

    /** Each count at none and at its most. */
    private static void countsFullAndEmpty() {
        Story.SIXTEEN.answers("receipts", x -> x.count(0), 16);
        Story.FULL_BINS.answers("amounts", x -> x.count(1), 10000);
        Story.FULL_BINS.answers("grain", x -> x.count(2), 10000);
        Story.FULL_TEXT.answers("text", x -> x.count(9), 60);
        Story.SIXTEEN.answers("states", x -> x.count(8), 4);
        Story.SIXTEEN.answers("made", x -> x.count(4), 16);
        Story gone = Story.SIXTEEN.and("all joined, out", x -> {
            for (int i = 1; i < 16; i++) {
                x.join(i, 0);
            }
            x.deliver(0);
        });
        int[] want = {0, 0, 0, 0, 16, 0, 160, 0, 4, 0};
        for (int what = 0; what < 10; what++) {
            int each = what;
            gone.answers("count " + what, x -> x.count(each), want[what]);
        }
        Story out = Story.SIXTEEN.and("two delivered", x -> {
            x.deliver(3);
            x.deliver(4);
        });
        out.answers("delivered so far", x -> x.count(6), 20);
        Story lost = Story.EMPTY.and("a cut is not lost till it is", x -> x.store(0, 0, 4000));
        lost.answers("not yet", x -> x.count(7), 0);
        lost.and("lost", x -> x.lose(1, 160)).answers("now", x -> x.count(7), 160);
        Story twice = lost.and("lost twice", x -> {
            x.lose(1, 100);
            x.lose(0, 60);
        });
        twice.answers("lost so far", x -> x.count(7), 160);
        Story days = Story.EMPTY.and("many days", x -> {
            for (int i = 0; i < 500; i++) {
                x.pass(99);
            }
        });
        days.answers("the day", x -> x.count(3), 49500);
    }
}
