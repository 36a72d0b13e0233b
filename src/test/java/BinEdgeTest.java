/** The edges that "Settings" and the promises 12 to 14 name: the sentence stands above its test. */
public final class BinEdgeTest {
    private static final int MOST = Integer.MAX_VALUE;
    private static final int LEAST = Integer.MIN_VALUE;

    public static void main(String[] args) {
        loseRanges();
        loseAllItHas();
        loseCovered();
        regradeRanges();
        regradeBetter();
        regradeOneStepCovered();
        regradeTwoStepsCovered();
        regradeSame();
        settingRanges();
        settingsInUse();
        Check.end();
    }

    /** 100 of each grade in the bins 0, 2 and 4, without any receipt. */
    private static Story free() {
        return Story.EMPTY.and("100 of each grade, free", x -> {
            x.set(3, 20);
            for (int grade = 0; grade < 3; grade++) {
                x.store(0, grade, 500);
                x.deliver(grade);
            }
        });
    }

    /** Promise 12: "bin: 0 to 4", "amount: 1 or more" */
    private static void loseRanges() {
        free().answers("1 of bin 0", x -> x.lose(0, 1), 99);
        free().answers("1 of bin 4", x -> x.lose(4, 1), 99);
        for (int bin : new int[] {-1, 5, MOST, LEAST}) {
            free().refuses("bin " + bin, x -> x.lose(bin, 1), Check.INVALID);
        }
        for (int amount : new int[] {0, -1, LEAST}) {
            free().refuses("amount " + amount, x -> x.lose(0, amount), Check.INVALID);
            Story.EMPTY.refuses("empty, amount " + amount, x -> x.lose(0, amount), Check.INVALID);
        }
        free().refuses("neither", x -> x.lose(5, 0), Check.INVALID);
    }

    /** "NOT_POSSIBLE if it has less" */
    private static void loseAllItHas() {
        for (int bin = 0; bin < 5; bin += 2) {
            int each = bin;
            free().answers("all", x -> x.lose(each, 100), 0);
            free().answers("all but 1", x -> x.lose(each, 99), 1);
            free().refuses("1 more than all", x -> x.lose(each, 101), Check.NOT_POSSIBLE);
            free().refuses("most", x -> x.lose(each, MOST), Check.NOT_POSSIBLE);
            Story empty = free().and("all lost", x -> x.lose(each, 100));
            empty.refuses("1 of nothing", x -> x.lose(each, 1), Check.NOT_POSSIBLE);
            empty.answers("lost so far", x -> x.count(7), 100);
        }
        free().refuses("1 of an empty bin", x -> x.lose(1, 1), Check.NOT_POSSIBLE);
        free().refuses("though another bin of the grade has it", x -> x.lose(3, 100), Check.NOT_POSSIBLE);
        Story.EMPTY.refuses("nothing at all", x -> x.lose(4, 1), Check.NOT_POSSIBLE);
    }

    /** "or if not all receipts would be covered" */
    private static void loseCovered() {
        for (int bin = 0; bin < 5; bin++) {
            int each = bin;
            Story.FULL_BINS.refuses("1 of full bins", x -> x.lose(each, 1), Check.NOT_POSSIBLE);
            Story.FULL_BINS.refuses("all of a full bin", x -> x.lose(each, 2000), Check.NOT_POSSIBLE);
            Story.FULL_BINS.answers("could lose", x -> x.binOf(each, 2), 0);
        }
        Story cut = Story.EMPTY.and("160 of 4000 are cut", x -> x.store(0, 1, 4000));
        cut.answers("all of the cut", x -> x.lose(2, 160), 1840);
        cut.answers("of the other bin", x -> x.lose(3, 160), 1840);
        cut.refuses("1 more", x -> x.lose(2, 161), Check.NOT_POSSIBLE);
        Story half = cut.and("half of it", x -> x.lose(2, 80));
        half.answers("the other half", x -> x.lose(3, 80), 1920);
        half.refuses("1 more than half", x -> x.lose(3, 81), Check.NOT_POSSIBLE);
    }

    /** Promise 13: "bin: 0 to 4", "grade: 0 to 2", "Returns the grade that it had" */
    private static void regradeRanges() {
        int[] had = {0, 0, 1, 1, 2};
        for (int bin = 0; bin < 5; bin++) {
            for (int grade = 0; grade < 3; grade++) {
                int each = bin;
                int to = grade;
                Story.EMPTY.answers("an empty bin " + bin + " to " + grade, x -> x.regrade(each, to), had[bin]);
                Story behind = Story.EMPTY.and("regraded", x -> x.regrade(each, to));
                behind.answers("its grade", x -> x.binOf(each, 0), grade);
                behind.answers("it had", x -> x.regrade(each, had[each]), grade);
            }
            int each = bin;
            for (int grade : new int[] {-1, 3, MOST, LEAST}) {
                Story.EMPTY.refuses("empty, to " + grade, x -> x.regrade(each, grade), Check.INVALID);
                Story.FULL_BINS.refuses("full, to " + grade, x -> x.regrade(each, grade), Check.INVALID);
            }
        }
        for (int bin : new int[] {-1, 5, MOST, LEAST}) {
            Story.EMPTY.refuses("bin " + bin, x -> x.regrade(bin, 0), Check.INVALID);
        }
    }

    /** "NOT_POSSIBLE .. if grade is better than it was and the bin is not empty" */
    private static void regradeBetter() {
        Story one = Story.EMPTY.and("1 in bin 2 and in bin 4", x -> {
            x.store(0, 1, 1);
            x.store(0, 2, 1);
        });
        one.refuses("bin 2 to 0 with 1 in it", x -> x.regrade(2, 0), Check.NOT_POSSIBLE);
        one.refuses("bin 4 to 0 with 1 in it", x -> x.regrade(4, 0), Check.NOT_POSSIBLE);
        one.refuses("bin 4 to 1 with 1 in it", x -> x.regrade(4, 1), Check.NOT_POSSIBLE);
        one.answers("bin 3 is empty", x -> x.regrade(3, 0), 1);
        one.and("out", x -> x.deliver(1)).answers("bin 4 to 0 with 0 in it", x -> x.regrade(4, 0), 2);
        one.and("out", x -> x.deliver(0)).answers("bin 2 to 0 with 0 in it", x -> x.regrade(2, 0), 1);
        Story down = free().and("bin 0 goes down", x -> x.regrade(0, 1));
        down.refuses("and not up again", x -> x.regrade(0, 0), Check.NOT_POSSIBLE);
        down.and("all lost", x -> x.lose(0, 100)).answers("but when it is empty", x -> x.regrade(0, 0), 1);
    }

    /** "NOT_POSSIBLE if not all receipts would be covered": bin 0 alone has to cover the grade 0, or bin 2 the 1. */
    private static void regradeOneStepCovered() {
        for (int grade = 0; grade < 2; grade++) {
            int each = grade;
            int upper = 2 * grade + 1;
            for (int more = 83; more <= 84; more++) {
                int amount = more;
                // 1920 and 80 are just what bin 0 has; 1920 and 81 are 1 above it.
                Story story = Story.EMPTY.and("2000 and " + more + " of grade " + grade, x -> {
                    x.store(0, each, 2000);
                    x.store(0, each, amount);
                });
                if (more == 83) {
                    story.answers("just covered", x -> x.regrade(upper, each + 1), grade);
                    story.answers("by two steps or one", x -> x.regrade(upper, 2), grade);
                } else {
                    story.refuses("1 is not covered", x -> x.regrade(upper, each + 1), Check.NOT_POSSIBLE);
                    story.refuses("by two steps or one", x -> x.regrade(upper, 2), Check.NOT_POSSIBLE);
                }
            }
        }
    }

    /** The grade 1 may be the one that is not covered when grain of grade 0 becomes grain of grade 2. */
    private static void regradeTwoStepsCovered() {
        Story story = Story.EMPTY.and("20 free of grade 0, 100 with a receipt of grade 1", x -> {
            x.set(3, 20);
            x.store(0, 0, 100);
            x.deliver(0);
            x.set(3, 0);
            x.store(0, 1, 100);
        });
        story.answers("to 2", x -> x.regrade(0, 2), 0);
        Story less = story.and("1 of grade 1 is lost", x -> x.lose(2, 1));
        less.answers("to 1", x -> x.regrade(0, 1), 0);
        less.refuses("to 2", x -> x.regrade(0, 2), Check.NOT_POSSIBLE);
        less.and("to 1", x -> x.regrade(0, 1)).refuses("then to 2", x -> x.regrade(0, 2), Check.NOT_POSSIBLE);
        Story.FULL_BINS.refuses("full, 0 to 1", x -> x.regrade(1, 1), Check.NOT_POSSIBLE);
        Story.FULL_BINS.refuses("full, 0 to 2", x -> x.regrade(0, 2), Check.NOT_POSSIBLE);
        Story.FULL_BINS.refuses("full, 1 to 2", x -> x.regrade(3, 2), Check.NOT_POSSIBLE);
    }

    /** The grade that it has is not better than it was, and covers what it covered. */
    private static void regradeSame() {
        int[] had = {0, 0, 1, 1, 2};
        for (int bin = 0; bin < 5; bin++) {
            int each = bin;
            Story.FULL_BINS.answers("the same", x -> x.regrade(each, had[each]), had[bin]);
            Story.FULL_BINS.goesAndIsUndone("the same", x -> x.regrade(each, had[each]));
        }
    }

    /** "The settings are (in parentheses: range; first value): 0 (10 to 100; 70), 1 (10 to 150; 90), 2 (1 to 30; 3),
     *  3 (0 to 20; 4)", and promise 14: "what: 0 to 3", "Returns what it was" */
    private static void settingRanges() {
        int[][] settings = {{10, 100, 70}, {10, 150, 90}, {1, 30, 3}, {0, 20, 4}};
        for (int what = 0; what < 4; what++) {
            int each = what;
            int least = settings[what][0];
            int greatest = settings[what][1];
            Story.EMPTY.answers("first " + what, x -> x.count(20 + each), settings[what][2]);
            Story.EMPTY.answers("least " + what, x -> x.set(each, least), settings[what][2]);
            Story.EMPTY.answers("greatest " + what, x -> x.set(each, greatest), settings[what][2]);
            Story.EMPTY.and("least", x -> x.set(each, least)).answers("it was least", x -> x.set(each, greatest), least);
            Story high = Story.EMPTY.and("greatest", x -> x.set(each, greatest));
            high.answers("it was greatest", x -> x.set(each, least), greatest);
            for (int other = 0; other < 4; other++) {
                int told = other;
                high.answers("now " + other, x -> x.count(20 + told), other == what ? greatest : settings[other][2]);
            }
            for (int value : new int[] {least - 1, greatest + 1, -1, MOST, LEAST}) {
                Story.EMPTY.refuses("setting " + what + " to " + value, x -> x.set(each, value), Check.INVALID);
                Story.CALLED.refuses("setting " + what + " to " + value, x -> x.set(each, value), Check.INVALID);
            }
        }
        for (int what : new int[] {-1, 4, 20, MOST, LEAST}) {
            Story.EMPTY.refuses("what " + what, x -> x.set(what, 10), Check.INVALID);
        }
    }

    /** The least and the greatest value of each setting are in use behind set. */
    private static void settingsInUse() {
        Story.ONE.and("least", x -> x.set(0, 10)).answers("loan", x -> x.receiptOf(0, 7), 100);
        Story.ONE.and("greatest", x -> x.set(0, 100)).answers("loan", x -> x.receiptOf(0, 7), 1000);
        Story.PLEDGED.and("least", x -> x.set(1, 10)).answers("to pay", x -> x.receiptOf(0, 8), 600);
        Story.PLEDGED.and("least", x -> x.set(1, 10)).answers("calls", x -> x.call(0), 1);
        Story high = Story.PLEDGED.and("greatest", x -> x.set(1, 150));
        high.and("at 5", x -> x.price(2, 5)).answers("750 is enough", x -> x.call(0), 0);
        high.and("at 4", x -> x.price(2, 4)).answers("600 is not", x -> x.receiptOf(0, 8), 100);
        Story.EMPTY.and("no cut", x -> x.set(3, 0)).and("stored", x -> x.store(0, 0, 4000))
                .answers("all of it", x -> x.receiptOf(0, 2), 4000);
        Story.EMPTY.and("a cut of 20", x -> x.set(3, 20)).and("stored", x -> x.store(0, 0, 4000))
                .answers("four fifths", x -> x.receiptOf(0, 2), 3200);
    }
}
