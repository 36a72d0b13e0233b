/** The edges that "Pledges", "Accounts" and the promises 7 to 11 name: the sentence stands above its test. */
public final class PledgeEdgeTest {
    private static final int MOST = Integer.MAX_VALUE;
    private static final int LEAST = Integer.MIN_VALUE;

    public static void main(String[] args) {
        loansOfOne();
        greatestLoans();
        worthAtLowestGrade();
        pledgeRanges();
        pledgeErrors();
        repayEdges();
        repayErrors();
        money();
        priceRanges();
        callsAbove();
        callsOnce();
        callRanges();
        callsAll();
        daysToPay();
        callIsOverByPayment();
        callIsOverAtEndOfDay();
        passRanges();
        seizedBelongs();
        seizesAll();
        seizedCounts();
        Check.end();
    }

    /** "a loan (1 or more)" and promise 7: "loan: 1 or more" */
    private static void loansOfOne() {
        Story.ONE.answers("1", x -> x.pledge(0, 0, 1), 1);
        Story.ONE.refuses("0", x -> x.pledge(0, 0, 0), Check.INVALID);
        Story.ONE.refuses("-1", x -> x.pledge(0, 0, -1), Check.INVALID);
        Story.ONE.refuses("least", x -> x.pledge(0, 0, LEAST), Check.INVALID);
        Story one = Story.ONE.and("a loan of 1", x -> x.pledge(0, 1, 1));
        one.answers("its loan", x -> x.receiptOf(0, 5), 1);
        one.answers("its lender", x -> x.receiptOf(0, 4), 1);
        one.answers("loans of the lender", x -> x.lenderOf(1, 1), 1);
    }

    /** "A loan can be at most (the worth times setting 0, divided by 100, rounded down)." */
    private static void greatestLoans() {
        int[][] rows = {{1, 1, 99, 0}, {1, 1, 100, 1}, {1, 10, 10, 1}, {1, 10, 70, 7}, {1, 9, 10, 0}, {3, 1, 70, 2},
            {7, 1, 70, 4}, {10, 1, 19, 1}, {10, 1, 20, 2}, {99, 99, 70, 6860}, {101, 99, 99, 9899},
            {4000, 99, 100, 396000}, {4000, 99, 10, 39600}, {3999, 97, 71, 275411}};
        for (int[] row : rows) {
            Story story = Story.EMPTY.and(row[0] + " at " + row[1] + ", share " + row[2], x -> {
                x.set(3, 0);
                x.set(0, row[2]);
                x.store(0, 1, row[0]);
                x.price(2, row[1]);
            });
            int most = row[3];
            story.answers("greatest", x -> x.receiptOf(0, 7), most);
            story.refuses("one more", x -> x.pledge(0, 0, most + 1), Check.NOT_POSSIBLE);
            story.refuses("most", x -> x.pledge(0, 0, MOST), Check.NOT_POSSIBLE);
            if (most > 0) {
                story.answers("the greatest", x -> x.pledge(0, 0, most), most);
            }
        }
        Story dear = Story.GREATEST.and("dear", x -> {
            x.set(0, 100);
            x.price(2, 99);
        });
        dear.answers("greatest of all", x -> x.pledge(0, 2, 990000), 990000);
        dear.refuses("above it", x -> x.pledge(0, 2, 990001), Check.NOT_POSSIBLE);
    }

    /** "A lender counts an amount at the price of the grade 2, whatever its grade is: this is the worth" */
    private static void worthAtLowestGrade() {
        for (int grade = 0; grade < 3; grade++) {
            int each = grade;
            Story story = Story.EMPTY.and("10 of grade " + grade, x -> {
                x.set(3, 0);
                x.store(0, each, 10);
            });
            story.answers("worth", x -> x.receiptOf(0, 3), 100);
            story.answers("loan", x -> x.pledge(0, 0, 70), 70);
            story.refuses("too great", x -> x.pledge(0, 0, 71), Check.NOT_POSSIBLE);
            Story other = story.and("other prices", x -> {
                x.price(0, 99);
                x.price(1, 1);
            });
            other.answers("worth as before", x -> x.receiptOf(0, 3), 100);
            other.and("grade 2 too", x -> x.price(2, 99)).answers("another worth", x -> x.receiptOf(0, 3), 990);
            other.and("grade 2 at 1", x -> x.price(2, 1)).answers("least worth", x -> x.receiptOf(0, 3), 10);
        }
    }

    /** Promise 7: "lender: 0 to 2" */
    private static void pledgeRanges() {
        Story.ONE.answers("lender 0", x -> x.pledge(0, 0, 1), 1);
        Story.ONE.answers("lender 2", x -> x.pledge(0, 2, 1), 1);
        for (int lender : new int[] {-1, 3, 5, MOST, LEAST}) {
            Story.ONE.refuses("lender " + lender, x -> x.pledge(0, lender, 1), Check.INVALID);
        }
        Story.SIXTEEN.answers("the last receipt", x -> x.pledge(15, 0, 70), 70);
        Story.SIXTEEN.refuses("behind the last", x -> x.pledge(16, 0, 1), Check.INVALID);
        Story.SIXTEEN.refuses("ahead of the first", x -> x.pledge(-1, 0, 1), Check.INVALID);
    }

    /** "NOT_POSSIBLE if it is pledged, if the owner is that lender, or if the loan would be too great" */
    private static void pledgeErrors() {
        Story little = Story.ONE.and("a little", x -> x.pledge(0, 0, 1));
        little.refuses("again", x -> x.pledge(0, 0, 1), Check.NOT_POSSIBLE);
        little.refuses("to another", x -> x.pledge(0, 1, 1), Check.NOT_POSSIBLE);
        little.refuses("again, lender 3", x -> x.pledge(0, 3, 1), Check.INVALID);
        little.refuses("again, loan 0", x -> x.pledge(0, 1, 0), Check.INVALID);
        Story paid = little.and("paid", x -> x.repay(0, 1));
        paid.answers("again, behind the payment", x -> x.pledge(0, 1, 700), 700);
        Story.SEIZED.refuses("seized, to its owner", x -> x.pledge(0, 0, 1), Check.NOT_POSSIBLE);
        Story.SEIZED.refuses("seized, to its owner, loan 0", x -> x.pledge(0, 0, 0), Check.INVALID);
        Story.SEIZED.answers("seized, to lender 1", x -> x.pledge(0, 1, 350), 350);
        Story.SEIZED.answers("seized, to lender 2", x -> x.pledge(0, 2, 350), 350);
        Story.SEIZED.refuses("seized, too great", x -> x.pledge(0, 2, 351), Check.NOT_POSSIBLE);
    }

    /** Promise 8: "Pays back of a loan; if all of it is paid, the pledge is gone." "amount: 1 or more" */
    private static void repayEdges() {
        Story.PLEDGED.answers("1", x -> x.repay(0, 1), 699);
        Story.PLEDGED.answers("all but 1", x -> x.repay(0, 699), 1);
        Story.PLEDGED.answers("all", x -> x.repay(0, 700), 0);
        Story one = Story.PLEDGED.and("1 is left", x -> x.repay(0, 699));
        one.answers("still pledged", x -> x.receiptOf(0, 4), 0);
        one.answers("loan", x -> x.receiptOf(0, 5), 1);
        one.answers("the last", x -> x.repay(0, 1), 0);
        one.refuses("more than the last", x -> x.repay(0, 2), Check.NOT_POSSIBLE);
        Story none = one.and("0 is left", x -> x.repay(0, 1));
        none.answers("no pledge", x -> x.receiptOf(0, 4), Check.NOT_FOUND);
        none.answers("no loan", x -> x.receiptOf(0, 5), Check.NOT_FOUND);
        none.answers("the receipt stays", x -> x.receiptOf(0, 2), 100);
        none.answers("its owner stays", x -> x.receiptOf(0, 0), 0);
        none.refuses("nothing is left to pay", x -> x.repay(0, 1), Check.NOT_POSSIBLE);
    }

    /** "INVALID_ARGUMENT if there is no such receipt or amount is below 1; NOT_POSSIBLE if it is not pledged, or the
     *  loan is less" */
    private static void repayErrors() {
        for (int amount : new int[] {0, -1, LEAST}) {
            Story.PLEDGED.refuses("pledged, amount " + amount, x -> x.repay(0, amount), Check.INVALID);
            Story.ONE.refuses("not pledged, amount " + amount, x -> x.repay(0, amount), Check.INVALID);
            Story.ONE.refuses("no receipt, amount " + amount, x -> x.repay(1, amount), Check.INVALID);
        }
        Story.PLEDGED.refuses("1 too much", x -> x.repay(0, 701), Check.NOT_POSSIBLE);
        Story.PLEDGED.refuses("most", x -> x.repay(0, MOST), Check.NOT_POSSIBLE);
        Story.PLEDGED.refuses("no receipt", x -> x.repay(1, 1), Check.INVALID);
        Story.ONE.refuses("not pledged", x -> x.repay(0, 1), Check.NOT_POSSIBLE);
        Story.SEIZED.refuses("seized", x -> x.repay(0, 1), Check.NOT_POSSIBLE);
    }

    /** "Each owner has money (0 at first ..): it becomes greater by loans, and less by what it pays back. Loans that
     *  are seized stay with the owner who had them." */
    private static void money() {
        for (int owner = 0; owner < 8; owner++) {
            int each = owner;
            Story.EMPTY.answers("money of " + owner, x -> x.ownerOf(each, 0), 0);
            Story.PLEDGED.answers("money of " + owner, x -> x.ownerOf(each, 0), owner == 0 ? 700 : 0);
            Story.SEIZED.answers("money of " + owner, x -> x.ownerOf(each, 0), owner == 0 ? 700 : 0);
        }
        Story.PLEDGED.and("paid", x -> x.repay(0, 1)).answers("less", x -> x.ownerOf(0, 0), 699);
        Story.PLEDGED.and("paid", x -> x.repay(0, 700)).answers("nothing", x -> x.ownerOf(0, 0), 0);
        Story again = Story.SEIZED.and("handed back", x -> x.hand(0, 0));
        again.answers("on top of the seized loan", x -> x.pledge(0, 1, 350), 1050);
        Story lender = Story.ONE.and("of lender 2", x -> x.hand(0, 7));
        lender.answers("a lender's money", x -> x.pledge(0, 0, 700), 700);
        Story both = Story.SIXTEEN.and("two loans", x -> x.pledge(0, 0, 70));
        both.answers("the second", x -> x.pledge(1, 1, 70), 140);
    }

    /** Promise 9: "grade: 0 to 2", "price: 1 to 99", "Returns what it was"; "30, 20 and 10 at first" */
    private static void priceRanges() {
        int[] first = {30, 20, 10};
        for (int grade = 0; grade < 3; grade++) {
            int each = grade;
            Story.EMPTY.answers("first", x -> x.gradeOf(each, 0), first[grade]);
            Story.EMPTY.answers("1", x -> x.price(each, 1), first[grade]);
            Story.EMPTY.answers("99", x -> x.price(each, 99), first[grade]);
            Story.EMPTY.answers("the same", x -> x.price(each, first[each]), first[grade]);
            Story least = Story.EMPTY.and("1", x -> x.price(each, 1));
            least.answers("it was 1", x -> x.price(each, 99), 1);
            least.and("99", x -> x.price(each, 99)).answers("it was 99", x -> x.price(each, 50), 99);
            for (int other = 0; other < 3; other++) {
                int told = other;
                least.answers("price of " + other, x -> x.gradeOf(told, 0), other == grade ? 1 : first[other]);
            }
            for (int price : new int[] {0, 100, -1, MOST, LEAST}) {
                Story.PLEDGED.refuses("price " + price, x -> x.price(each, price), Check.INVALID);
            }
        }
        for (int grade : new int[] {-1, 3, MOST, LEAST}) {
            Story.PLEDGED.refuses("grade " + grade, x -> x.price(grade, 1), Check.INVALID);
        }
    }

    /** "whose loan is above (its worth times setting 1, divided by 100, rounded down), is called" */
    private static void callsAbove() {
        // amount, price, setting 1, the greatest loan that is not called
        int[][] rows = {{100, 7, 90, 630}, {11, 1, 90, 9}, {10, 1, 90, 9}, {9, 1, 90, 8}, {10, 1, 10, 1}, {19, 1, 10, 1},
            {20, 1, 10, 2}, {10, 1, 150, 15}, {11, 1, 150, 16}, {4000, 99, 10, 39600}, {3999, 13, 149, 77460}};
        for (int[] row : rows) {
            callsAbove(row, row[3], false);
            callsAbove(row, row[3] + 1, true);
        }
        Story.ONE.answers("without a loan", x -> x.call(0), 0);
        Story much = Story.GREATEST.and("lent at 99, called at 150 of 100", x -> {
            x.set(0, 100);
            x.set(1, 150);
            x.price(2, 99);
            x.pledge(0, 0, 990000);
        });
        much.and("66", x -> x.price(2, 66)).answers("990000 is not above", x -> x.call(0), 0);
        much.and("65", x -> x.price(2, 65)).answers("975000 is less", x -> x.call(0), 1);
        much.answers("no limit wraps around", x -> x.receiptOf(0, 8), 0);
    }

    private static void callsAbove(int[] row, int loan, boolean called) {
        GrainReceipts x = new GrainReceipts();
        x.set(3, 0);
        x.set(0, 100);
        x.set(1, row[2]);
        x.store(0, 0, row[0]);
        x.price(2, 99);
        Check.due("pledge", x.pledge(0, 1, loan), loan);
        x.price(2, row[1]);
        String when = loan + " for " + row[0] + " at " + row[1] + ", share " + row[2];
        Check.due("would be called: " + when, x.lenderOf(1, 5), called ? 1 : 0);
        Check.due("to pay: " + when, x.receiptOf(0, 8), called ? 1 : 0);
        Check.due("calls: " + when, x.call(1), called ? 1 : 0);
        Check.due("days: " + when, x.receiptOf(0, 6), called ? 3 : Check.NOT_FOUND);
        Check.due("called: " + when, x.lenderOf(1, 3), called ? 1 : 0);
    }

    /** "each receipt that is pledged to it, is not called already" */
    private static void callsOnce() {
        Story.CALLED.answers("not twice", x -> x.call(0), 0);
        Story later = Story.CALLED.and("a day later, other days", x -> {
            x.pass(1);
            x.set(2, 30);
            x.call(0);
        });
        later.answers("its days stay", x -> x.receiptOf(0, 6), 2);
        Story two = Story.EMPTY.and("two lenders", x -> {
            x.set(3, 0);
            x.store(0, 0, 100);
            x.store(0, 0, 100);
            x.pledge(0, 0, 700);
            x.pledge(1, 1, 700);
            x.price(2, 5);
        });
        two.answers("its own alone", x -> x.call(1), 1);
        Story one = two.and("one calls", x -> x.call(1));
        one.answers("not the other's", x -> x.receiptOf(0, 6), Check.NOT_FOUND);
        one.answers("its own", x -> x.receiptOf(1, 6), 3);
        one.answers("the other calls too", x -> x.call(0), 1);
        one.answers("the third has none", x -> x.call(2), 0);
        Story over = Story.CALLED.and("over, dear again", x -> {
            x.price(2, 10);
            x.pass(1);
            x.price(2, 5);
        });
        over.answers("called anew", x -> x.call(0), 1);
        over.and("called anew", x -> x.call(0)).answers("all its days", x -> x.receiptOf(0, 6), 3);
        Story free = Story.PLEDGED.and("two days later, cheap", x -> {
            x.pass(2);
            x.price(2, 5);
        });
        free.answers("no call without a call", x -> x.receiptOf(0, 6), Check.NOT_FOUND);
        free.answers("called then", x -> x.call(0), 1);
    }

    /** Promise 10: "lender: 0 to 2" */
    private static void callRanges() {
        for (Story story : new Story[] {Story.EMPTY, Story.PLEDGED, Story.MIXED}) {
            for (int lender : new int[] {-1, 3, 5, MOST, LEAST}) {
                story.refuses("lender " + lender, x -> x.call(lender), Check.INVALID);
            }
        }
        Story.EMPTY.answers("lender 0", x -> x.call(0), 0);
        Story.EMPTY.answers("lender 2", x -> x.call(2), 0);
    }

    /** "Returns how many receipts are called by that": none, some and all 16 */
    private static void callsAll() {
        Story all = sixteenPledged();
        all.answers("none at first", x -> x.call(2), 0);
        Story cheap = all.and("cheap", x -> x.price(2, 1));
        cheap.answers("all", x -> x.call(2), 16);
        cheap.and("one paid", x -> x.repay(15, 70)).answers("all but one", x -> x.call(2), 15);
        cheap.and("one paid nearly", x -> x.repay(0, 61)).answers("all but one", x -> x.call(2), 15);
        cheap.and("one paid too little", x -> x.repay(0, 60)).answers("all", x -> x.call(2), 16);
        cheap.and("called", x -> x.call(2)).answers("none again", x -> x.call(2), 0);
    }

    private static Story sixteenPledged() {
        return Story.SIXTEEN.and("16 pledged", x -> {
            for (int i = 0; i < 16; i++) {
                x.pledge(i, 2, 70);
            }
        });
    }

    /** "it is due in setting 2 days"; "has one day less; if it has none left then .. it is seized" */
    private static void daysToPay() {
        for (int days : new int[] {1, 2, 3, 29, 30}) {
            Story called = Story.PLEDGED.and("called for " + days, x -> {
                x.price(2, 5);
                x.set(2, days);
                x.call(0);
            });
            called.answers("days left", x -> x.receiptOf(0, 6), days);
            called.answers("seized in its days", x -> x.pass(days), 1);
            called.answers("seized in 99 days once", x -> x.pass(99), 1);
            if (days > 1) {
                called.answers("not a day sooner", x -> x.pass(days - 1), 0);
                Story last = called.and("one day left", x -> x.pass(days - 1));
                last.answers("days", x -> x.receiptOf(0, 6), 1);
                last.answers("still the owner's", x -> x.receiptOf(0, 0), 0);
                last.answers("seized on the last day", x -> x.pass(1), 1);
            }
        }
    }

    /** "When a receipt's loan is not above that any more (behind a payment ..), its call is over." */
    private static void callIsOverByPayment() {
        Story.CALLED.answers("to pay", x -> x.receiptOf(0, 8), 250);
        Story above = Story.CALLED.and("451 of 450", x -> x.repay(0, 249));
        above.answers("still called", x -> x.receiptOf(0, 6), 3);
        above.answers("will be seized", x -> x.pass(3), 1);
        Story equal = Story.CALLED.and("450 of 450", x -> x.repay(0, 250));
        equal.answers("over", x -> x.receiptOf(0, 6), Check.NOT_FOUND);
        equal.answers("not seized", x -> x.pass(99), 0);
        equal.answers("still pledged", x -> x.receiptOf(0, 5), 450);
        Story paid = Story.CALLED.and("all is paid", x -> x.repay(0, 700));
        paid.answers("no days", x -> x.receiptOf(0, 6), Check.NOT_FOUND);
        paid.answers("not seized", x -> x.pass(99), 0);
        Story anew = paid.and("pledged anew", x -> x.pledge(0, 1, 350));
        anew.answers("not called", x -> x.receiptOf(0, 6), Check.NOT_FOUND);
        Story dear = Story.CALLED.and("dear again", x -> x.price(2, 10));
        dear.answers("a price alone ends no call", x -> x.receiptOf(0, 6), 3);
        dear.and("1 paid", x -> x.repay(0, 1)).answers("a payment of 1 does", x -> x.receiptOf(0, 6), Check.NOT_FOUND);
    }

    /** "(.. or at the end of a day), its call is over"; "if .. its loan is still above that, it is seized" */
    private static void callIsOverAtEndOfDay() {
        int[][] rows = {{7, 0}, {8, 1}};
        for (int[] row : rows) {
            // 700 is above 630 at 7, and not above 720 at 8.
            boolean over = row[1] == 1;
            Story first = Story.CALLED.and("price " + row[0], x -> x.price(2, row[0]));
            Story next = first.and("a day later", x -> x.pass(1));
            next.answers("days", x -> x.receiptOf(0, 6), over ? Check.NOT_FOUND : 2);
            Story last = Story.CALLED.and("on the last day price " + row[0], x -> {
                x.pass(2);
                x.price(2, row[0]);
            });
            last.answers("days stay till the day ends", x -> x.receiptOf(0, 6), 1);
            last.answers("seized", x -> x.pass(1), over ? 0 : 1);
            last.and("the day", x -> x.pass(1)).answers("owner", x -> x.receiptOf(0, 0), over ? 0 : 5);
            last.and("the day", x -> x.pass(1)).answers("no call", x -> x.receiptOf(0, 6), Check.NOT_FOUND);
        }
        Story equal = Story.CALLED.and("a share of 140: 700 is not above 700", x -> x.set(1, 140));
        equal.answers("not seized", x -> x.pass(3), 0);
        Story less = Story.CALLED.and("a share of 139: 700 is above 695", x -> x.set(1, 139));
        less.answers("seized", x -> x.pass(3), 1);
    }

    /** Promise 11: "days: 1 to 99" */
    private static void passRanges() {
        for (Story story : new Story[] {Story.EMPTY, Story.CALLED, Story.FULL_TEXT}) {
            for (int days : new int[] {0, 100, -1, MOST, LEAST}) {
                story.refuses("days " + days, x -> x.pass(days), Check.INVALID);
            }
            int seized = story == Story.CALLED ? 1 : 0;
            story.answers("1", x -> x.pass(1), 0);
            story.answers("99", x -> x.pass(99), seized);
            story.and("1", x -> x.pass(1)).answers("day", x -> x.count(3), 1);
            story.and("99", x -> x.pass(99)).answers("day", x -> x.count(3), 99);
            story.and("99", x -> x.pass(99)).and("1 more", x -> x.pass(1)).answers("day", x -> x.count(3), 100);
        }
    }

    /** "it belongs to its lender (as the owner 5 plus the lender), and its pledge and call are gone" */
    private static void seizedBelongs() {
        for (int lender = 0; lender < 3; lender++) {
            int each = lender;
            Story seized = Story.ONE.and("seized by " + lender, x -> {
                x.pledge(0, each, 700);
                x.price(2, 5);
                x.call(each);
                x.pass(3);
            });
            seized.answers("owner", x -> x.receiptOf(0, 0), 5 + lender);
            seized.answers("amount", x -> x.receiptOf(0, 2), 100);
            seized.answers("no lender", x -> x.receiptOf(0, 4), Check.NOT_FOUND);
            seized.answers("no loan", x -> x.receiptOf(0, 5), Check.NOT_FOUND);
            seized.answers("no call", x -> x.receiptOf(0, 6), Check.NOT_FOUND);
            seized.answers("nothing to pay", x -> x.receiptOf(0, 8), 0);
            seized.answers("no ratio", x -> x.receiptOf(0, 9), 0);
            seized.answers("no pledges of the lender", x -> x.lenderOf(each, 0), 0);
            seized.answers("none called", x -> x.lenderOf(each, 3), 0);
            seized.answers("not seized again", x -> x.pass(99), 0);
            seized.answers("handed on by it", x -> x.hand(0, 0), 5 + lender);
        }
    }

    /** Promise 11: "Returns how many receipts are seized in them": none, some and all 16, on unlike days too */
    private static void seizesAll() {
        Story called = sixteenPledged().and("all called", x -> {
            x.price(2, 1);
            x.call(2);
        });
        called.answers("none in 2 days", x -> x.pass(2), 0);
        called.answers("all in 3 days", x -> x.pass(3), 16);
        called.and("one paid", x -> x.repay(7, 61)).answers("all but one", x -> x.pass(3), 15);
        Story unlike = Story.SIXTEEN.and("called for 1, 2 and 3 days", x -> {
            for (int i = 0; i < 3; i++) {
                x.pledge(i, i, 70);
            }
            x.price(2, 1);
            for (int i = 0; i < 3; i++) {
                x.set(2, i + 1);
                x.call(i);
            }
        });
        unlike.answers("in 1", x -> x.pass(1), 1);
        unlike.answers("in 2", x -> x.pass(2), 2);
        unlike.answers("in 3", x -> x.pass(3), 3);
        unlike.and("2 days", x -> x.pass(2)).answers("in the third", x -> x.pass(1), 1);
        unlike.and("3 days", x -> x.pass(3)).answers("in none more", x -> x.pass(99), 0);
        unlike.and("2 days", x -> x.pass(2)).answers("the third's is called", x -> x.receiptOf(2, 6), 1);
    }

    /** Promises 20 and 22: "the sum of the loans that were seized so far", "receipts that were seized so far" */
    private static void seizedCounts() {
        Story all = sixteenPledged().and("all seized", x -> {
            x.price(2, 1);
            x.call(2);
            x.pass(3);
        });
        all.answers("seized", x -> x.count(5), 16);
        all.answers("loans seized", x -> x.lenderOf(2, 4), 16 * 70);
        all.answers("none by lender 0", x -> x.lenderOf(0, 4), 0);
        all.answers("receipts of the lender", x -> x.ownerOf(7, 1), 16);
        Story twice = Story.SEIZED.and("seized again by lender 1", x -> {
            x.pledge(0, 1, 350);
            x.price(2, 1);
            x.call(1);
            x.pass(3);
        });
        twice.answers("twice", x -> x.count(5), 2);
        twice.answers("by lender 0", x -> x.lenderOf(0, 4), 700);
        twice.answers("by lender 1", x -> x.lenderOf(1, 4), 350);
        twice.answers("owner", x -> x.receiptOf(0, 0), 6);
        twice.answers("the loan stays with lender 0", x -> x.ownerOf(5, 0), 350);
        Story.EMPTY.answers("none at first", x -> x.count(5), 0);
        Story.CALLED.answers("none yet", x -> x.lenderOf(0, 4), 0);
    }
}
