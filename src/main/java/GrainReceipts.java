/** Receipts for grain in bins. What each call promises stands in ../shared/DOC.md. */
public final class GrainReceipts {
    public static final int INVALID_ARGUMENT = -2000000001;
    public static final int NOT_POSSIBLE = -2000000002;
    public static final int LIMIT_REACHED = -2000000003;
    public static final int NOT_FOUND = -2000000004;

    private static final int BINS = 5;
    private static final int BIN_ROOM = 2000;
    private static final int GRADES = 3;
    private static final int LOWEST_GRADE = 2;
    private static final int RECEIPTS = 16;
    private static final int GREATEST_STORE = 4000;
    private static final int GREATEST_PRICE = 99;
    private static final int GREATEST_DAYS = 99;
    private static final int LENDERS = 3;
    private static final int OWNERS = 8;
    /** Owners below this store grain; this one and those above are the lenders themselves. */
    private static final int FIRST_LENDER_AS_OWNER = 5;
    private static final int NONE = -1;

    private static final int SETTINGS = 4;
    private static final int LOAN_SHARE = 0;
    private static final int CALL_SHARE = 1;
    private static final int DAYS_TO_PAY = 2;
    private static final int CUT_SHARE = 3;
    private static final int[] LEAST_SETTINGS = {10, 10, 1, 0};
    private static final int[] GREATEST_SETTINGS = {100, 150, 30, 20};

    private static final int HISTORY_STATES = 4;
    private static final int TEXT_ROOM = 60;
    private static final int FIRST_CHARACTER = 32;
    private static final int LAST_CHARACTER = 126;
    private static final int NUMBER_DIGITS = 6;
    private static final int ORDER_NUMBERS = 3;
    private static final char TEXT_END = 0;
    private static final int FORM_FAULT = 1;
    private static final int CALL_FAULT = 2;

    private final Script script = new Script();
    /** The latest state comes first; those behind the first historyLength ones wait for use. */
    private final State[] history = new State[HISTORY_STATES];
    private int historyLength;
    private State now = new State();
    /** Made once, so that no call has to make a state. */
    private State spare = new State();

    public GrainReceipts() {
        for (int i = 0; i < HISTORY_STATES; i++) {
            history[i] = new State();
        }
    }

    // ---- grain, receipts

    public int store(int owner, int grade, int amount) {
        spare.copyFrom(now);
        return recorded(now.storeGrain(owner, grade, amount));
    }

    public int split(int receipt, int amount) {
        spare.copyFrom(now);
        return recorded(now.splitOff(receipt, amount));
    }

    public int join(int receipt, int into) {
        spare.copyFrom(now);
        return recorded(now.joinInto(receipt, into));
    }

    public int hand(int receipt, int owner) {
        spare.copyFrom(now);
        return recorded(now.handOn(receipt, owner));
    }

    public int deliver(int receipt) {
        spare.copyFrom(now);
        return recorded(now.deliverGrain(receipt));
    }

    // ---- pledges

    public int pledge(int receipt, int lender, int loan) {
        spare.copyFrom(now);
        return recorded(now.pledgeTo(receipt, lender, loan));
    }

    public int repay(int receipt, int amount) {
        spare.copyFrom(now);
        return recorded(now.payBack(receipt, amount));
    }

    public int price(int grade, int price) {
        spare.copyFrom(now);
        return recorded(now.changePrice(grade, price));
    }

    public int call(int lender) {
        spare.copyFrom(now);
        return recorded(now.callLoans(lender));
    }

    public int pass(int days) {
        spare.copyFrom(now);
        return recorded(now.passDays(days));
    }

    // ---- bins

    public int lose(int bin, int amount) {
        spare.copyFrom(now);
        return recorded(now.loseGrain(bin, amount));
    }

    public int regrade(int bin, int grade) {
        spare.copyFrom(now);
        return recorded(now.regradeBin(bin, grade));
    }

    public int set(int what, int value) {
        spare.copyFrom(now);
        return recorded(now.changeSetting(what, value));
    }

    // ---- what there is

    public int receiptOf(int receipt, int what) {
        return now.tellReceipt(receipt, what);
    }

    public int receipt(int index) {
        return now.numberAt(index);
    }

    public int binOf(int bin, int what) {
        return now.tellBin(bin, what);
    }

    public int gradeOf(int grade, int what) {
        return now.tellGrade(grade, what);
    }

    public int ownerOf(int owner, int what) {
        return now.tellOwner(owner, what);
    }

    public int lenderOf(int lender, int what) {
        return now.tellLender(lender, what);
    }

    // ---- what would be

    public int fallTo(int lender) {
        return now.greatestCallingPrice(lender);
    }

    public int count(int what) {
        switch (what) {
            case 8: return historyLength;
            case 9: return script.length;
            default: return now.tellNumber(what);
        }
    }

    public int undo() {
        if (historyLength <= 0) {
            return NOT_POSSIBLE;
        }
        State undone = now;
        now = history[0];
        for (int i = 0; i + 1 < HISTORY_STATES; i++) {
            history[i] = history[i + 1];
        }
        history[HISTORY_STATES - 1] = undone;
        historyLength--;
        return historyLength;
    }

    // ---- texts

    public int type(int character) {
        return script.append(character);
    }

    public int clearText() {
        int had = script.length;
        script.length = 0;
        return had;
    }

    public int fault(int what) {
        if (what < 0 || what > 2) {
            return INVALID_ARGUMENT;
        }
        spare.copyFrom(now);
        script.doOrders(spare);
        if (script.faultReason == 0) {
            return NOT_FOUND;
        }
        switch (what) {
            case 0: return script.faultPosition;
            case 1: return script.faultReason;
            default: return script.faultCause;
        }
    }

    public int play() {
        spare.copyFrom(now);
        script.doOrders(spare);
        if (script.faultReason != 0) {
            return NOT_POSSIBLE;
        }
        State before = now;
        now = spare;
        spare = before;
        recordSpare();
        return script.ordersDone;
    }

    /** Keeps the spare state, which is the one before the call, if the call was a change. */
    private int recorded(int answer) {
        if (!isError(answer)) {
            recordSpare();
        }
        return answer;
    }

    private void recordSpare() {
        State dropped = history[HISTORY_STATES - 1];
        for (int i = HISTORY_STATES - 1; i > 0; i--) {
            history[i] = history[i - 1];
        }
        history[0] = spare;
        spare = dropped;
        if (historyLength < HISTORY_STATES) {
            historyLength++;
        }
    }

    private static boolean isError(int answer) {
        return answer >= NOT_FOUND && answer <= INVALID_ARGUMENT;
    }

    private static boolean isGrade(int grade) {
        return grade >= 0 && grade < GRADES;
    }

    private static boolean isBin(int bin) {
        return bin >= 0 && bin < BINS;
    }

    private static boolean isOwner(int owner) {
        return owner >= 0 && owner < OWNERS;
    }

    private static boolean isLender(int lender) {
        return lender >= 0 && lender < LENDERS;
    }

    private static boolean isSetting(int what) {
        return what >= 0 && what < SETTINGS;
    }

    /** The bits of a float that is not negative, worked out by hand: the library has no call for it here. */
    private static int bitsOf(float value) {
        if (value <= 0f) {
            return 0;
        }
        float significand = value;
        int exponent = 127;
        for (int i = 0; i < 127 && significand >= 2f; i++) {
            significand = significand / 2f;
            exponent++;
        }
        for (int i = 0; i < 126 && significand < 1f; i++) {
            significand = significand * 2f;
            exponent--;
        }
        return (exponent << 23) + ((int) (significand * 8388608f) - 8388608);
    }

    private static final class Bin {
        int grade;
        int amount;

        void copyFrom(Bin other) {
            grade = other.grade;
            amount = other.amount;
        }
    }

    /** A place for a receipt: free, with the amount 0 and no pledge, when it has no number. */
    private static final class Receipt {
        int number = NONE;
        int owner;
        int grade;
        int amount;
        int lender = NONE;
        int loan;
        /** 0 if it is not called. */
        int daysLeft;

        boolean isUsed() {
            return number != NONE;
        }

        boolean isPledged() {
            return lender != NONE;
        }

        boolean isCalled() {
            return daysLeft > 0;
        }

        void use(int newNumber, int newOwner, int newGrade, int newAmount) {
            number = newNumber;
            owner = newOwner;
            grade = newGrade;
            amount = newAmount;
        }

        void free() {
            use(NONE, 0, 0, 0);
            endPledge();
        }

        void endPledge() {
            lender = NONE;
            loan = 0;
            daysLeft = 0;
        }

        void copyFrom(Receipt other) {
            use(other.number, other.owner, other.grade, other.amount);
            lender = other.lender;
            loan = other.loan;
            daysLeft = other.daysLeft;
        }
    }

    /** All that a change records: everything but the text and the history. */
    private static final class State {
        private final Bin[] bins = new Bin[BINS];
        private final Receipt[] receipts = new Receipt[RECEIPTS];
        private final int[] prices = {30, 20, 10};
        private final int[] settings = {70, 90, 3, 4};
        private final int[] money = new int[OWNERS];
        private final int[] seizedLoans = new int[LENDERS];
        private int day;
        private int receiptsMade;
        private int receiptsSeized;
        private int amountDelivered;
        private int amountLost;

        State() {
            for (int i = 0; i < BINS; i++) {
                bins[i] = new Bin();
                bins[i].grade = i / 2;
            }
            for (int i = 0; i < RECEIPTS; i++) {
                receipts[i] = new Receipt();
            }
        }

        void copyFrom(State other) {
            for (int i = 0; i < BINS; i++) {
                bins[i].copyFrom(other.bins[i]);
            }
            for (int i = 0; i < RECEIPTS; i++) {
                receipts[i].copyFrom(other.receipts[i]);
            }
            System.arraycopy(other.prices, 0, prices, 0, GRADES);
            System.arraycopy(other.settings, 0, settings, 0, SETTINGS);
            System.arraycopy(other.money, 0, money, 0, OWNERS);
            System.arraycopy(other.seizedLoans, 0, seizedLoans, 0, LENDERS);
            day = other.day;
            receiptsMade = other.receiptsMade;
            receiptsSeized = other.receiptsSeized;
            amountDelivered = other.amountDelivered;
            amountLost = other.amountLost;
        }

        // ---- changes; each one tests all its errors before it touches anything

        int storeGrain(int owner, int grade, int amount) {
            if (owner < 0 || owner >= FIRST_LENDER_AS_OWNER || !isGrade(grade)
                    || amount < 1 || amount > GREATEST_STORE) {
                return INVALID_ARGUMENT;
            }
            Receipt made = freePlace();
            if (made == null || amount > roomIn(grade)) {
                return LIMIT_REACHED;
            }
            fillBins(grade, amount);
            int cut = amount * settings[CUT_SHARE] / 100;
            made.use(nextNumber(), owner, grade, amount - cut);
            return made.number;
        }

        int splitOff(int number, int amount) {
            Receipt old = find(number);
            if (old == null || amount < 1) {
                return INVALID_ARGUMENT;
            }
            if (amount >= old.amount) {
                return NOT_POSSIBLE;
            }
            Receipt made = freePlace();
            if (made == null) {
                return LIMIT_REACHED;
            }
            made.use(nextNumber(), old.owner, old.grade, amount);
            splitLoan(old, made);
            old.amount -= amount;
            return made.number;
        }

        int joinInto(int number, int intoNumber) {
            Receipt gone = find(number);
            Receipt into = find(intoNumber);
            if (gone == null || into == null || number == intoNumber) {
                return INVALID_ARGUMENT;
            }
            if (gone.owner != into.owner || gone.grade != into.grade
                    || gone.isPledged() || into.isPledged()) {
                return NOT_POSSIBLE;
            }
            into.amount += gone.amount;
            gone.free();
            return into.amount;
        }

        int handOn(int number, int owner) {
            Receipt handed = find(number);
            if (handed == null || !isOwner(owner)) {
                return INVALID_ARGUMENT;
            }
            if (handed.owner == owner || handed.isPledged()) {
                return NOT_POSSIBLE;
            }
            int had = handed.owner;
            handed.owner = owner;
            return had;
        }

        int deliverGrain(int number) {
            Receipt served = find(number);
            if (served == null) {
                return INVALID_ARGUMENT;
            }
            if (served.isPledged()) {
                return NOT_POSSIBLE;
            }
            int better = takeOut(served.grade, served.amount);
            int left = better;
            for (int grade = served.grade - 1; grade >= 0; grade--) {
                left = takeOut(grade, left);
            }
            amountDelivered += served.amount;
            served.free();
            return better;
        }

        int pledgeTo(int number, int lender, int loan) {
            Receipt pledged = find(number);
            if (pledged == null || !isLender(lender) || loan < 1) {
                return INVALID_ARGUMENT;
            }
            if (pledged.isPledged() || pledged.owner == FIRST_LENDER_AS_OWNER + lender
                    || loan > greatestLoan(pledged)) {
                return NOT_POSSIBLE;
            }
            pledged.lender = lender;
            pledged.loan = loan;
            addMoney(pledged.owner, loan);
            return moneyOf(pledged.owner);
        }

        int payBack(int number, int amount) {
            Receipt pledged = find(number);
            if (pledged == null || amount < 1) {
                return INVALID_ARGUMENT;
            }
            if (!pledged.isPledged() || pledged.loan < amount) {
                return NOT_POSSIBLE;
            }
            pledged.loan -= amount;
            addMoney(pledged.owner, -amount);
            if (pledged.loan == 0) {
                pledged.endPledge();
            } else if (!isLoanTooHigh(pledged)) {
                pledged.daysLeft = 0;
            }
            return pledged.loan;
        }

        int changePrice(int grade, int price) {
            if (!isGrade(grade) || price < 1 || price > GREATEST_PRICE) {
                return INVALID_ARGUMENT;
            }
            int was = prices[grade];
            prices[grade] = price;
            return was;
        }

        int callLoans(int lender) {
            if (!isLender(lender)) {
                return INVALID_ARGUMENT;
            }
            int called = 0;
            for (Receipt each : receipts) {
                if (wouldBeCalled(each, lender, prices[LOWEST_GRADE])) {
                    each.daysLeft = settings[DAYS_TO_PAY];
                    called++;
                }
            }
            return called;
        }

        int passDays(int days) {
            if (days < 1 || days > GREATEST_DAYS) {
                return INVALID_ARGUMENT;
            }
            int seizedBefore = receiptsSeized;
            for (int i = 0; i < days; i++) {
                passDay();
            }
            return receiptsSeized - seizedBefore;
        }

        int loseGrain(int bin, int amount) {
            if (!isBin(bin) || amount < 1) {
                return INVALID_ARGUMENT;
            }
            Bin losing = bins[bin];
            if (amount > greatestLoss(losing)) {
                return NOT_POSSIBLE;
            }
            losing.amount -= amount;
            amountLost += amount;
            return losing.amount;
        }

        int regradeBin(int bin, int grade) {
            if (!isBin(bin) || !isGrade(grade)) {
                return INVALID_ARGUMENT;
            }
            Bin regraded = bins[bin];
            int had = regraded.grade;
            if (grade < had && regraded.amount > 0) {
                return NOT_POSSIBLE;
            }
            // Only the grades that the bin falls through lose its grain.
            for (int fallen = had; fallen < grade; fallen++) {
                if (regraded.amount > surplus(fallen)) {
                    return NOT_POSSIBLE;
                }
            }
            regraded.grade = grade;
            return had;
        }

        int changeSetting(int what, int value) {
            if (!isSetting(what) || value < LEAST_SETTINGS[what] || value > GREATEST_SETTINGS[what]) {
                return INVALID_ARGUMENT;
            }
            int was = settings[what];
            settings[what] = value;
            return was;
        }

        // ---- questions

        int tellReceipt(int number, int what) {
            Receipt told = find(number);
            if (told == null) {
                return INVALID_ARGUMENT;
            }
            switch (what) {
                case 0: return told.owner;
                case 1: return told.grade;
                case 2: return told.amount;
                case 3: return worth(told);
                case 4: return told.isPledged() ? told.lender : NOT_FOUND;
                case 5: return told.isPledged() ? told.loan : NOT_FOUND;
                case 6: return told.isCalled() ? told.daysLeft : NOT_FOUND;
                case 7: return greatestLoan(told);
                case 8: return Math.max(0, told.loan - callLimit(worth(told)));
                case 9: return loanRatioBits(told);
                default: return INVALID_ARGUMENT;
            }
        }

        int numberAt(int index) {
            if (index < 0) {
                return INVALID_ARGUMENT;
            }
            for (Receipt each : receipts) {
                if (each.isUsed() && receiptsBelow(each.number) == index) {
                    return each.number;
                }
            }
            return NOT_FOUND;
        }

        int tellBin(int bin, int what) {
            if (!isBin(bin)) {
                return INVALID_ARGUMENT;
            }
            switch (what) {
                case 0: return bins[bin].grade;
                case 1: return bins[bin].amount;
                case 2: return greatestLoss(bins[bin]);
                default: return INVALID_ARGUMENT;
            }
        }

        int tellGrade(int grade, int what) {
            if (!isGrade(grade)) {
                return INVALID_ARGUMENT;
            }
            switch (what) {
                case 0: return prices[grade];
                case 1: return grainOf(grade, grade);
                case 2: return receiptsOf(grade, grade);
                case 3: return surplus(grade);
                case 4: return roomIn(grade);
                default: return INVALID_ARGUMENT;
            }
        }

        int tellOwner(int owner, int what) {
            if (!isOwner(owner)) {
                return INVALID_ARGUMENT;
            }
            int owned = 0;
            int amounts = 0;
            int loans = 0;
            int values = 0;
            for (Receipt each : receipts) {
                if (each.isUsed() && each.owner == owner) {
                    owned++;
                    amounts += each.amount;
                    loans += each.loan;
                    values += each.amount * priceOf(each.grade);
                }
            }
            switch (what) {
                case 0: return money[owner];
                case 1: return owned;
                case 2: return amounts;
                case 3: return loans;
                case 4: return money[owner] + values - loans;
                default: return INVALID_ARGUMENT;
            }
        }

        int tellLender(int lender, int what) {
            if (!isLender(lender)) {
                return INVALID_ARGUMENT;
            }
            int pledges = 0;
            int loans = 0;
            int worths = 0;
            int called = 0;
            int callable = 0;
            for (Receipt each : receipts) {
                if (each.lender == lender) {
                    pledges++;
                    loans += each.loan;
                    worths += worth(each);
                    called += each.isCalled() ? 1 : 0;
                    callable += wouldBeCalled(each, lender, prices[LOWEST_GRADE]) ? 1 : 0;
                }
            }
            switch (what) {
                case 0: return pledges;
                case 1: return loans;
                case 2: return worths;
                case 3: return called;
                case 4: return seizedLoans[lender];
                case 5: return callable;
                default: return INVALID_ARGUMENT;
            }
        }

        int greatestCallingPrice(int lender) {
            if (!isLender(lender)) {
                return INVALID_ARGUMENT;
            }
            for (int price = GREATEST_PRICE; price >= 1; price--) {
                for (Receipt each : receipts) {
                    if (wouldBeCalled(each, lender, price)) {
                        return price;
                    }
                }
            }
            return NOT_FOUND;
        }

        int tellNumber(int what) {
            switch (what) {
                case 0: return receiptsBelow(receiptsMade);
                case 1: return receiptsOf(0, LOWEST_GRADE);
                case 2: return grainOf(0, LOWEST_GRADE);
                case 3: return day;
                case 4: return receiptsMade;
                case 5: return receiptsSeized;
                case 6: return amountDelivered;
                case 7: return amountLost;
                case 20: return settings[LOAN_SHARE];
                case 21: return settings[CALL_SHARE];
                case 22: return settings[DAYS_TO_PAY];
                case 23: return settings[CUT_SHARE];
                default: return INVALID_ARGUMENT;
            }
        }

        // ---- grain in bins

        private int grainOf(int firstGrade, int lastGrade) {
            int grain = 0;
            for (Bin each : bins) {
                if (each.grade >= firstGrade && each.grade <= lastGrade) {
                    grain += each.amount;
                }
            }
            return grain;
        }

        private int roomIn(int grade) {
            int room = 0;
            for (Bin each : bins) {
                if (each.grade == grade) {
                    room += BIN_ROOM - each.amount;
                }
            }
            return room;
        }

        private int surplus(int grade) {
            return grainOf(0, grade) - receiptsOf(0, grade);
        }

        private int greatestLoss(Bin bin) {
            int loss = bin.amount;
            for (int grade = bin.grade; grade < GRADES; grade++) {
                loss = Math.min(loss, surplus(grade));
            }
            return loss;
        }

        private void fillBins(int grade, int amount) {
            int left = amount;
            for (Bin each : bins) {
                if (each.grade == grade) {
                    int filled = Math.min(left, BIN_ROOM - each.amount);
                    each.amount += filled;
                    left -= filled;
                }
            }
        }

        /** Returns how much the bins of the grade do not have. */
        private int takeOut(int grade, int amount) {
            int left = amount;
            for (Bin each : bins) {
                if (each.grade == grade) {
                    int taken = Math.min(left, each.amount);
                    each.amount -= taken;
                    left -= taken;
                }
            }
            return left;
        }

        // ---- receipts

        /** Returns null if there is no receipt with this number. */
        private Receipt find(int number) {
            for (Receipt each : receipts) {
                if (each.isUsed() && each.number == number) {
                    return each;
                }
            }
            return null;
        }

        /** Returns null if there are as many receipts as there can be. */
        private Receipt freePlace() {
            for (Receipt each : receipts) {
                if (!each.isUsed()) {
                    return each;
                }
            }
            return null;
        }

        private int nextNumber() {
            int number = receiptsMade;
            receiptsMade++;
            return number;
        }

        private int receiptsBelow(int number) {
            int below = 0;
            for (Receipt each : receipts) {
                if (each.isUsed() && each.number < number) {
                    below++;
                }
            }
            return below;
        }

        private int receiptsOf(int firstGrade, int lastGrade) {
            int amounts = 0;
            for (Receipt each : receipts) {
                if (each.isUsed() && each.grade >= firstGrade && each.grade <= lastGrade) {
                    amounts += each.amount;
                }
            }
            return amounts;
        }

        private int priceOf(int grade) {
            return isGrade(grade) ? prices[grade] : 0;
        }

        // ---- loans

        private int moneyOf(int owner) {
            return isOwner(owner) ? money[owner] : 0;
        }

        private void addMoney(int owner, int amount) {
            if (isOwner(owner)) {
                money[owner] += amount;
            }
        }

        private int worth(Receipt receipt) {
            return receipt.amount * prices[LOWEST_GRADE];
        }

        private int greatestLoan(Receipt receipt) {
            return worth(receipt) * settings[LOAN_SHARE] / 100;
        }

        private int callLimit(int worth) {
            return worth * settings[CALL_SHARE] / 100;
        }

        private boolean isLoanTooHigh(Receipt receipt) {
            return receipt.loan > callLimit(worth(receipt));
        }

        private boolean wouldBeCalled(Receipt receipt, int lender, int price) {
            return receipt.lender == lender && !receipt.isCalled()
                    && receipt.loan > callLimit(receipt.amount * price);
        }

        private int loanRatioBits(Receipt receipt) {
            int worth = worth(receipt);
            return worth > 0 ? bitsOf((float) receipt.loan / (float) worth) : 0;
        }

        /** The old receipt still has its whole amount when this is called. */
        private void splitLoan(Receipt old, Receipt made) {
            if (old.amount <= 0) {
                return;
            }
            int loan = (int) ((long) old.loan * made.amount / old.amount);
            if (loan > 0) {
                made.lender = old.lender;
                made.loan = loan;
                old.loan -= loan;
            }
        }

        private void passDay() {
            day++;
            for (Receipt each : receipts) {
                if (each.isCalled()) {
                    each.daysLeft--;
                    if (!isLoanTooHigh(each)) {
                        each.daysLeft = 0;
                    } else if (!each.isCalled()) {
                        seize(each);
                    }
                }
            }
        }

        private void seize(Receipt called) {
            int lender = called.lender;
            if (isLender(lender)) {
                seizedLoans[lender] += called.loan;
                receiptsSeized++;
                called.owner = FIRST_LENDER_AS_OWNER + lender;
                called.endPledge();
            }
        }
    }

    /** The text, the order that is being read in it, and how the orders went when they were done last. */
    private static final class Script {
        private final char[] characters = new char[TEXT_ROOM];
        private final int[] numbers = new int[ORDER_NUMBERS];
        private int length;
        /** Position of the first character that has not been read. */
        private int next;
        private int ordersDone;
        private int faultPosition;
        /** 0 if there is no fault. */
        private int faultReason;
        private int faultCause;

        int append(int character) {
            if (character < FIRST_CHARACTER || character > LAST_CHARACTER) {
                return INVALID_ARGUMENT;
            }
            if (length < 0 || length >= TEXT_ROOM) {
                return LIMIT_REACHED;
            }
            characters[length] = (char) character;
            length++;
            return length;
        }

        /** Does the orders on the state, up to the first one that is not possible. */
        void doOrders(State state) {
            ordersDone = 0;
            faultReason = 0;
            next = 0;
            for (int i = 0; i < TEXT_ROOM && next < length; i++) {
                int start = next;
                if (!readOrder()) {
                    setFault(start, FORM_FAULT, next - start);
                    return;
                }
                int answer = doOrder(state, characterAt(start));
                if (isError(answer)) {
                    setFault(start, CALL_FAULT, answer);
                    return;
                }
                ordersDone++;
            }
        }

        private void setFault(int position, int reason, int cause) {
            faultPosition = position;
            faultReason = reason;
            faultCause = cause;
        }

        private int doOrder(State state, char letter) {
            switch (letter) {
                case 's': return state.storeGrain(numbers[0], numbers[1], numbers[2]);
                case 'l': return state.pledgeTo(numbers[0], numbers[1], numbers[2]);
                case 'p': return state.changePrice(numbers[0], numbers[1]);
                case 'c': return state.callLoans(numbers[0]);
                case 'd': return state.deliverGrain(numbers[0]);
                case 't': return state.passDays(numbers[0]);
                default: return INVALID_ARGUMENT;
            }
        }

        /** Stops at the character at which the order breaks off, if it does. */
        private boolean readOrder() {
            int wanted = numbersBehind(characterAt(next));
            if (wanted == 0) {
                return false;
            }
            next++;
            for (int i = 0; i < wanted && i < ORDER_NUMBERS; i++) {
                if (!isDigit(characterAt(next))) {
                    return false;
                }
                numbers[i] = readNumber();
                if (characterAt(next) != (i + 1 < wanted ? ',' : ';')) {
                    return false;
                }
                next++;
            }
            return true;
        }

        private int readNumber() {
            int number = 0;
            for (int i = 0; i < NUMBER_DIGITS && isDigit(characterAt(next)); i++) {
                number = number * 10 + (characterAt(next) - '0');
                next++;
            }
            return number;
        }

        private char characterAt(int position) {
            boolean isInText = position >= 0 && position < length && position < TEXT_ROOM;
            return isInText ? characters[position] : TEXT_END;
        }

        /** Returns 0 if no order begins with this letter. */
        private static int numbersBehind(char letter) {
            switch (letter) {
                case 's':
                case 'l': return 3;
                case 'p': return 2;
                case 'c':
                case 'd':
                case 't': return 1;
                default: return 0;
            }
        }

        private static boolean isDigit(char character) {
            return character >= '0' && character <= '9';
        }
    }
}
