import java.math.BigInteger;
import java.util.ArrayDeque;
import java.util.ArrayList;
import java.util.Deque;
import java.util.List;
import java.util.TreeMap;
import java.util.regex.Matcher;
import java.util.regex.Pattern;

/**
 * The document once more, written for itself and another way than the class: whole books that are copied,
 * refusals thrown, texts read by patterns. ModelTest compares the two.
 */
final class Model {
    private static final class Refused extends RuntimeException {
        private static final long serialVersionUID = 1L;
        final int code;

        Refused(int code) {
            super(null, null, false, false);
            this.code = code;
        }
    }

    private record Receipt(int owner, int grade, int amount, int lender, int loan, int due) {
        boolean pledged() {
            return lender >= 0;
        }

        Receipt owned(int by) {
            return new Receipt(by, grade, amount, lender, loan, due);
        }

        Receipt sized(int of) {
            return new Receipt(owner, grade, of, lender, loan, due);
        }

        Receipt owing(int to, int much, int days) {
            return new Receipt(owner, grade, amount, to, much, days);
        }

        Receipt unpledged() {
            return owing(-1, 0, 0);
        }
    }

    private static final class Book {
        int[] binGrade = {0, 0, 1, 1, 2};
        int[] binAmount = new int[5];
        int[] price = {30, 20, 10};
        int[] setting = {70, 90, 3, 4};
        int[] money = new int[8];
        int[] seizedLoans = new int[3];
        TreeMap<Integer, Receipt> receipts = new TreeMap<>();
        int day;
        int made;
        int seized;
        int delivered;
        int lost;

        Book copy() {
            Book c = new Book();
            c.binGrade = binGrade.clone();
            c.binAmount = binAmount.clone();
            c.price = price.clone();
            c.setting = setting.clone();
            c.money = money.clone();
            c.seizedLoans = seizedLoans.clone();
            c.receipts = new TreeMap<>(receipts);
            c.day = day;
            c.made = made;
            c.seized = seized;
            c.delivered = delivered;
            c.lost = lost;
            return c;
        }
    }

    private interface Change {
        int on(Book b);
    }

    private Book book = new Book();
    private final Deque<Book> history = new ArrayDeque<>();
    private String text = "";

    private static void need(boolean fine, int code) {
        if (!fine) {
            throw new Refused(code);
        }
    }

    private static void valid(boolean fine) {
        need(fine, Check.INVALID);
    }

    private static void possible(boolean fine) {
        need(fine, Check.NOT_POSSIBLE);
    }

    private static boolean within(int value, int least, int greatest) {
        return least <= value && value <= greatest;
    }

    private static Receipt told(Book b, int receipt) {
        valid(b.receipts.containsKey(receipt));
        return b.receipts.get(receipt);
    }

    private static boolean covered(Book b) {
        for (int g = 0; g < 3; g++) {
            if (surplus(b, g) < 0) {
                return false;
            }
        }
        return true;
    }

    private static int surplus(Book b, int grade) {
        int sum = 0;
        for (int i = 0; i < 5; i++) {
            sum += b.binGrade[i] <= grade ? b.binAmount[i] : 0;
        }
        return sum - b.receipts.values().stream().filter(r -> r.grade() <= grade).mapToInt(Receipt::amount).sum();
    }

    private static int share(long of, int percent) {
        return (int) (of * percent / 100);
    }

    private static boolean above(Book b, Receipt r, int price) {
        return r.loan() > share((long) r.amount() * price, b.setting[1]);
    }

    private int change(Change what) {
        Book next = book.copy();
        try {
            int answer = what.on(next);
            history.addLast(book);
            if (history.size() > 4) {
                history.removeFirst();
            }
            book = next;
            return answer;
        } catch (Refused refused) {
            return refused.code;
        }
    }

    private int ask(Change what) {
        try {
            return what.on(book.copy());
        } catch (Refused refused) {
            return refused.code;
        }
    }

    // ---- changes on a book

    private static int doStore(Book b, int owner, int grade, int amount) {
        valid(within(owner, 0, 4) && within(grade, 0, 2) && within(amount, 1, 4000));
        need(b.receipts.size() < 16, Check.LIMIT);
        // grain by grain, so that no sum can go wrong
        for (int grain = 0; grain < amount; grain++) {
            int bin = 0;
            while (bin < 5 && (b.binGrade[bin] != grade || b.binAmount[bin] == 2000)) {
                bin++;
            }
            need(bin < 5, Check.LIMIT);
            b.binAmount[bin]++;
        }
        b.receipts.put(b.made, new Receipt(owner, grade, amount - share(amount, b.setting[3]), -1, 0, 0));
        return b.made++;
    }

    private static int doSplit(Book b, int receipt, int amount) {
        Receipt r = told(b, receipt);
        valid(amount >= 1);
        possible(amount < r.amount());
        need(b.receipts.size() < 16, Check.LIMIT);
        int loan = BigInteger.valueOf(r.loan()).multiply(BigInteger.valueOf(amount))
                .divide(BigInteger.valueOf(r.amount())).intValueExact();
        Receipt part = new Receipt(r.owner(), r.grade(), amount, loan == 0 ? -1 : r.lender(), loan, 0);
        b.receipts.put(receipt, r.sized(r.amount() - amount).owing(r.lender(), r.loan() - loan, r.due()));
        b.receipts.put(b.made, part);
        return b.made++;
    }

    private static int doJoin(Book b, int receipt, int into) {
        Receipt from = told(b, receipt);
        Receipt to = told(b, into);
        valid(receipt != into);
        possible(from.owner() == to.owner() && from.grade() == to.grade() && !from.pledged() && !to.pledged());
        b.receipts.remove(receipt);
        b.receipts.put(into, to.sized(from.amount() + to.amount()));
        return from.amount() + to.amount();
    }

    private static int doHand(Book b, int receipt, int owner) {
        Receipt r = told(b, receipt);
        valid(within(owner, 0, 7));
        possible(owner != r.owner() && !r.pledged());
        b.receipts.put(receipt, r.owned(owner));
        return r.owner();
    }

    private static int doDeliver(Book b, int receipt) {
        Receipt r = told(b, receipt);
        possible(!r.pledged());
        int better = 0;
        for (int grain = 0; grain < r.amount(); grain++) {
            int from = -1;
            for (int grade = r.grade(); grade >= 0 && from < 0; grade--) {
                for (int bin = 4; bin >= 0; bin--) {
                    from = b.binGrade[bin] == grade && b.binAmount[bin] > 0 ? bin : from;
                }
            }
            b.binAmount[from]--;
            better += b.binGrade[from] < r.grade() ? 1 : 0;
        }
        b.receipts.remove(receipt);
        b.delivered += r.amount();
        if (!covered(b)) {
            throw new IllegalStateException("a delivery uncovers receipts");
        }
        return better;
    }

    private static int doPledge(Book b, int receipt, int lender, int loan) {
        Receipt r = told(b, receipt);
        valid(within(lender, 0, 2) && loan >= 1);
        possible(!r.pledged() && r.owner() != lender + 5);
        possible(loan <= share((long) r.amount() * b.price[2], b.setting[0]));
        b.receipts.put(receipt, r.owing(lender, loan, 0));
        return b.money[r.owner()] += loan;
    }

    private static int doRepay(Book b, int receipt, int amount) {
        Receipt r = told(b, receipt);
        valid(amount >= 1);
        possible(r.pledged() && amount <= r.loan());
        b.money[r.owner()] -= amount;
        Receipt left = r.owing(r.lender(), r.loan() - amount, r.due());
        b.receipts.put(receipt, left.loan() == 0 ? left.unpledged()
                : above(b, left, b.price[2]) ? left : left.owing(left.lender(), left.loan(), 0));
        return left.loan();
    }

    private static int doPrice(Book b, int grade, int price) {
        valid(within(grade, 0, 2) && within(price, 1, 99));
        int was = b.price[grade];
        b.price[grade] = price;
        return was;
    }

    private static List<Integer> callable(Book b, int lender, int price) {
        List<Integer> found = new ArrayList<>();
        b.receipts.forEach((number, r) -> {
            if (r.lender() == lender && r.due() == 0 && above(b, r, price)) {
                found.add(number);
            }
        });
        return found;
    }

    private static int doCall(Book b, int lender) {
        valid(within(lender, 0, 2));
        List<Integer> called = callable(b, lender, b.price[2]);
        for (int number : called) {
            Receipt r = b.receipts.get(number);
            b.receipts.put(number, r.owing(lender, r.loan(), b.setting[2]));
        }
        return called.size();
    }

    private static int doPass(Book b, int days) {
        valid(within(days, 1, 99));
        int before = b.seized;
        for (int end = b.day + days; b.day < end; b.day++) {
            b.receipts.replaceAll((number, r) -> r.due() == 0 ? r : endOfDay(b, r));
        }
        return b.seized - before;
    }

    private static Receipt endOfDay(Book b, Receipt r) {
        if (!above(b, r, b.price[2])) {
            return r.owing(r.lender(), r.loan(), 0);
        }
        if (r.due() > 1) {
            return r.owing(r.lender(), r.loan(), r.due() - 1);
        }
        b.seized++;
        b.seizedLoans[r.lender()] += r.loan();
        return r.owned(5 + r.lender()).unpledged();
    }

    private static int doLose(Book b, int bin, int amount) {
        valid(within(bin, 0, 4) && amount >= 1);
        possible(b.binAmount[bin] >= amount);
        b.binAmount[bin] -= amount;
        possible(covered(b));
        b.lost += amount;
        return b.binAmount[bin];
    }

    private static int doRegrade(Book b, int bin, int grade) {
        valid(within(bin, 0, 4) && within(grade, 0, 2));
        int was = b.binGrade[bin];
        possible(grade >= was || b.binAmount[bin] == 0);
        b.binGrade[bin] = grade;
        possible(covered(b));
        return was;
    }

    private static int doSet(Book b, int what, int value) {
        int[][] ranges = {{10, 100}, {10, 150}, {1, 30}, {0, 20}};
        valid(within(what, 0, 3) && within(value, ranges[what][0], ranges[what][1]));
        int was = b.setting[what];
        b.setting[what] = value;
        return was;
    }

    // ---- questions on a book

    private static int tellReceipt(Book b, int receipt, int what) {
        Receipt r = told(b, receipt);
        int worth = r.amount() * b.price[2];
        switch (what) {
            case 0: return r.owner();
            case 1: return r.grade();
            case 2: return r.amount();
            case 3: return worth;
            case 4:
                need(r.pledged(), Check.NOT_FOUND);
                return r.lender();
            case 5:
                need(r.pledged(), Check.NOT_FOUND);
                return r.loan();
            case 6:
                need(r.due() > 0, Check.NOT_FOUND);
                return r.due();
            case 7: return share(worth, b.setting[0]);
            case 8: return above(b, r, b.price[2]) ? r.loan() - share(worth, b.setting[1]) : 0;
            case 9: return Float.floatToIntBits((float) r.loan() / (float) worth);
            default: throw new Refused(Check.INVALID);
        }
    }

    private static int tellBin(Book b, int bin, int what) {
        valid(within(bin, 0, 4) && within(what, 0, 2));
        if (what < 2) {
            return what == 0 ? b.binGrade[bin] : b.binAmount[bin];
        }
        int lost = 0;
        while (b.binAmount[bin] > 0) {
            b.binAmount[bin]--;
            if (!covered(b)) {
                return lost;
            }
            lost++;
        }
        return lost;
    }

    private static int tellGrade(Book b, int grade, int what) {
        valid(within(grade, 0, 2) && within(what, 0, 4));
        int grain = 0;
        int bins = 0;
        for (int i = 0; i < 5; i++) {
            if (b.binGrade[i] == grade) {
                grain += b.binAmount[i];
                bins++;
            }
        }
        int amounts = b.receipts.values().stream().filter(r -> r.grade() == grade).mapToInt(Receipt::amount).sum();
        return new int[] {b.price[grade], grain, amounts, surplus(b, grade), bins * 2000 - grain}[what];
    }

    private static int tellOwner(Book b, int owner, int what) {
        valid(within(owner, 0, 7) && within(what, 0, 4));
        List<Receipt> own = b.receipts.values().stream().filter(r -> r.owner() == owner).toList();
        int amounts = own.stream().mapToInt(Receipt::amount).sum();
        int loans = own.stream().mapToInt(Receipt::loan).sum();
        int values = own.stream().mapToInt(r -> r.amount() * b.price[r.grade()]).sum();
        return new int[] {b.money[owner], own.size(), amounts, loans, b.money[owner] + values - loans}[what];
    }

    private static int tellLender(Book b, int lender, int what) {
        valid(within(lender, 0, 2) && within(what, 0, 5));
        List<Receipt> held = b.receipts.values().stream().filter(r -> r.lender() == lender).toList();
        int loans = held.stream().mapToInt(Receipt::loan).sum();
        int worths = held.stream().mapToInt(Receipt::amount).sum() * b.price[2];
        int called = (int) held.stream().filter(r -> r.due() > 0).count();
        int callable = callable(b, lender, b.price[2]).size();
        return new int[] {held.size(), loans, worths, called, b.seizedLoans[lender], callable}[what];
    }

    private static int fall(Book b, int lender) {
        valid(within(lender, 0, 2));
        int found = 0;
        for (int price = 1; price <= 99; price++) {
            found = callable(b, lender, price).isEmpty() ? found : price;
        }
        need(found > 0, Check.NOT_FOUND);
        return found;
    }

    // ---- texts

    private static final String[] FORMS = {
        "s(\\d{1,6}),(\\d{1,6}),(\\d{1,6});", "l(\\d{1,6}),(\\d{1,6}),(\\d{1,6});", "p(\\d{1,6}),(\\d{1,6});",
        "c(\\d{1,6});", "d(\\d{1,6});", "t(\\d{1,6});"};

    /** Answers position, reason and cause of the fault, or the number of orders alone. */
    private int[] run(Book b) {
        int start = 0;
        int orders = 0;
        while (start < text.length()) {
            String rest = text.substring(start);
            Matcher found = null;
            for (String form : FORMS) {
                Matcher m = Pattern.compile(form).matcher(rest);
                found = m.lookingAt() ? m : found;
            }
            if (found == null) {
                return new int[] {start, 1, goodStart(rest)};
            }
            try {
                obey(b, found);
            } catch (Refused refused) {
                return new int[] {start, 2, refused.code};
            }
            orders++;
            start += found.end();
        }
        return new int[] {orders};
    }

    /** The length of the longest start of it that some order has. */
    private static int goodStart(String rest) {
        int good = 0;
        for (int length = 1; length <= rest.length(); length++) {
            for (String form : FORMS) {
                Matcher m = Pattern.compile(form).matcher(rest.substring(0, length));
                if (m.matches() || m.hitEnd()) {
                    good = length;
                }
            }
        }
        return good;
    }

    private static void obey(Book b, Matcher m) {
        int[] n = new int[3];
        for (int i = 0; i < m.groupCount(); i++) {
            n[i] = Integer.parseInt(m.group(i + 1));
        }
        switch (m.group().charAt(0)) {
            case 's' -> doStore(b, n[0], n[1], n[2]);
            case 'l' -> doPledge(b, n[0], n[1], n[2]);
            case 'p' -> doPrice(b, n[0], n[1]);
            case 'c' -> doCall(b, n[0]);
            case 'd' -> doDeliver(b, n[0]);
            default -> doPass(b, n[0]);
        }
    }

    // ---- the face, by the place of the call in it

    static final String[] CALLS = {"store", "split", "join", "hand", "deliver", "pledge", "repay", "price", "call",
        "pass", "lose", "regrade", "set", "receiptOf", "receipt", "binOf", "gradeOf", "ownerOf", "lenderOf", "fallTo",
        "count", "undo", "type", "clearText", "fault", "play"};

    int answer(String call, int p, int q, int r) {
        switch (call) {
            case "store": return change(b -> doStore(b, p, q, r));
            case "split": return change(b -> doSplit(b, p, q));
            case "join": return change(b -> doJoin(b, p, q));
            case "hand": return change(b -> doHand(b, p, q));
            case "deliver": return change(b -> doDeliver(b, p));
            case "pledge": return change(b -> doPledge(b, p, q, r));
            case "repay": return change(b -> doRepay(b, p, q));
            case "price": return change(b -> doPrice(b, p, q));
            case "call": return change(b -> doCall(b, p));
            case "pass": return change(b -> doPass(b, p));
            case "lose": return change(b -> doLose(b, p, q));
            case "regrade": return change(b -> doRegrade(b, p, q));
            case "set": return change(b -> doSet(b, p, q));
            case "receiptOf": return ask(b -> tellReceipt(b, p, q));
            case "receipt": return ask(b -> index(b, p));
            case "binOf": return ask(b -> tellBin(b, p, q));
            case "gradeOf": return ask(b -> tellGrade(b, p, q));
            case "ownerOf": return ask(b -> tellOwner(b, p, q));
            case "lenderOf": return ask(b -> tellLender(b, p, q));
            case "fallTo": return ask(b -> fall(b, p));
            case "count": return ask(b -> number(b, p));
            case "undo": return undo();
            case "type": return type(p);
            case "clearText":
                int had = text.length();
                text = "";
                return had;
            case "fault": return ask(b -> fault(b, p));
            default: return change(this::play);
        }
    }

    private static int index(Book b, int index) {
        valid(index >= 0);
        need(index < b.receipts.size(), Check.NOT_FOUND);
        return new ArrayList<>(b.receipts.keySet()).get(index);
    }

    private int number(Book b, int what) {
        valid(within(what, 0, 9) || within(what, 20, 23));
        if (what >= 20) {
            return b.setting[what - 20];
        }
        int amounts = b.receipts.values().stream().mapToInt(Receipt::amount).sum();
        int grain = java.util.Arrays.stream(b.binAmount).sum();
        return new int[] {b.receipts.size(), amounts, grain, b.day, b.made, b.seized, b.delivered, b.lost,
            history.size(), text.length()}[what];
    }

    private int undo() {
        if (history.isEmpty()) {
            return Check.NOT_POSSIBLE;
        }
        book = history.removeLast();
        return history.size();
    }

    private int type(int character) {
        if (!within(character, 32, 126)) {
            return Check.INVALID;
        }
        if (text.length() == 60) {
            return Check.LIMIT;
        }
        text += (char) character;
        return text.length();
    }

    private int fault(Book b, int what) {
        valid(within(what, 0, 2));
        int[] found = run(b);
        need(found.length == 3, Check.NOT_FOUND);
        return found[what];
    }

    private int play(Book b) {
        int[] found = run(b);
        possible(found.length == 1);
        return found[0];
    }
}
