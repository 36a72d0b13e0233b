import java.util.Random;

/** Runs of up to 512 calls with fixed seeds: the class has to answer as the model does, and must not throw. */
public final class ModelTest {
    private static final int RUNS = 400;
    private static final int CALLS = 512;
    private static final int[] ODD = {-1, 0, Integer.MIN_VALUE, Integer.MAX_VALUE, 2000000000, 16, 17, -2000000001};

    public static void main(String[] args) {
        int runs = args.length > 0 ? Integer.parseInt(args[0]) : RUNS;
        for (int seed = 0; seed < runs; seed++) {
            if (!agrees(seed)) {
                System.exit(1);
            }
        }
        System.out.println(runs + " runs agree");
    }

    private static boolean agrees(int seed) {
        Random random = new Random(seed);
        GrainReceipts x = new GrainReceipts();
        Model model = new Model();
        // Some runs are wild, most keep to arguments that go.
        int wildness = seed % 5 == 0 ? 3 : 40;
        String pending = "";
        for (int i = 0; i < CALLS; i++) {
            String call;
            int[] a = new int[3];
            if (!pending.isEmpty()) {
                call = "type";
                a[0] = pending.charAt(0);
                pending = pending.substring(1);
            } else {
                call = pick(random, model);
                arguments(random, model, call, a);
                if (call.equals("type") && random.nextInt(4) > 0) {
                    pending = order(random, model);
                    a[0] = pending.charAt(0);
                    pending = pending.substring(1);
                }
                if (random.nextInt(wildness) == 0) {
                    a[random.nextInt(3)] = ODD[random.nextInt(ODD.length)];
                }
            }
            int got = answer(x, call, a[0], a[1], a[2]);
            int want = model.answer(call, a[0], a[1], a[2]);
            if (differ(seed, i, call, a, got, want) || random.nextInt(50) == 0 && !looksLike(seed, i, x, model)) {
                return false;
            }
        }
        return looksLike(seed, CALLS, x, model);
    }

    private static boolean differ(int seed, int i, String call, int[] a, int got, int want) {
        if (got != want) {
            System.out.println("seed " + seed + ", call " + i + ": " + call + "(" + a[0] + ", " + a[1] + ", "
                    + a[2] + ") answered " + got + ", the model " + want);
        }
        return got != want;
    }

    /** Every question with all its arguments, and some that are wrong. */
    private static boolean looksLike(int seed, int i, GrainReceipts x, Model model) {
        String[] questions = {"receipt", "fallTo", "count", "binOf", "gradeOf", "ownerOf", "lenderOf", "fault"};
        for (String question : questions) {
            for (int p = -1; p < 26; p++) {
                for (int q = -1; q < 8; q++) {
                    int[] a = {p, q, 0};
                    int got = answer(x, question, p, q, 0);
                    if (differ(seed, i, question, a, got, model.answer(question, p, q, 0))) {
                        return false;
                    }
                }
            }
        }
        for (int index = 0; index < x.count(0); index++) {
            for (int what = -1; what < 11; what++) {
                int[] a = {x.receipt(index), what, 0};
                int got = x.receiptOf(a[0], what);
                if (differ(seed, i, "receiptOf", a, got, model.answer("receiptOf", a[0], what, 0))) {
                    return false;
                }
            }
        }
        return true;
    }

    private static String pick(Random random, Model m) {
        String[] often = {"store", "store", "split", "hand", "pledge", "pledge", "pledge", "repay", "price", "price",
            "call", "pass", "lose", "lose", "play", "fault", "type", "deliver", "deliver", "deliver", "join",
            "regrade"};
        if (ask(m, "fault", 1) == 1 && random.nextInt(6) == 0) {
            return "clearText";
        }
        return random.nextInt(3) == 0 ? Model.CALLS[random.nextInt(Model.CALLS.length)]
                : often[random.nextInt(often.length)];
    }

    /** The model is asked, so that the object sees no calls but those that are compared. */
    private static int ask(Model m, String call, int... a) {
        return m.answer(call, a[0], a.length > 1 ? a[1] : 0, 0);
    }

    private static int some(Random random, Model m) {
        int number = ask(m, "receipt", random.nextInt(Math.max(1, ask(m, "count", 0))));
        return number < 0 ? random.nextInt(3) : number;
    }

    private static int up(Random random, int greatest) {
        return 1 + random.nextInt(Math.max(1, greatest));
    }

    private static void arguments(Random random, Model m, String call, int[] a) {
        int receipt = some(random, m);
        switch (call) {
            case "store" -> fill(a, random.nextInt(5), random.nextInt(3),
                    up(random, random.nextInt(4) == 0 ? 4001 : 500));
            case "split" -> fill(a, receipt, up(random, ask(m, "receiptOf", receipt, 2)), 0);
            case "join" -> fill(a, receipt, some(random, m), 0);
            case "hand" -> fill(a, receipt, random.nextInt(random.nextInt(3) == 0 ? 9 : 3), 0);
            case "deliver" -> fill(a, receipt, 0, 0);
            case "pledge" -> fill(a, receipt, random.nextInt(3), nearly(random, ask(m, "receiptOf", receipt, 7)));
            case "repay" -> fill(a, receipt, repayment(random, m, receipt), 0);
            case "price" -> fill(a, random.nextInt(2) == 0 ? 2 : random.nextInt(3),
                    up(random, random.nextInt(3) == 0 ? 100 : 12), 0);
            case "pass" -> fill(a, up(random, random.nextInt(5) == 0 ? 100 : 3), 0, 0);
            case "lose" -> lose(random, m, a);
            case "regrade" -> fill(a, random.nextInt(5), random.nextInt(4), 0);
            case "set" -> fill(a, random.nextInt(4), random.nextInt(25) + (random.nextBoolean() ? 0 : 77), 0);
            case "receiptOf" -> fill(a, receipt, random.nextInt(11), 0);
            case "receipt" -> fill(a, random.nextInt(17), 0, 0);
            case "count" -> fill(a, random.nextInt(26) - 1, 0, 0);
            case "type" -> fill(a, "slpcdt0123456789,;; x".charAt(random.nextInt(21)), 0, 0);
            case "binOf", "gradeOf", "ownerOf", "lenderOf" -> fill(a, random.nextInt(9), random.nextInt(7), 0);
            default -> fill(a, random.nextInt(4), 0, 0);
        }
    }

    private static void fill(int[] a, int p, int q, int r) {
        a[0] = p;
        a[1] = q;
        a[2] = r;
    }

    private static int nearly(Random random, int limit) {
        return random.nextBoolean() ? limit + random.nextInt(3) - 1 : up(random, limit);
    }

    private static int repayment(Random random, Model m, int receipt) {
        int toPay = ask(m, "receiptOf", receipt, 8);
        if (toPay > 0 && random.nextInt(3) > 0) {
            return toPay + random.nextInt(2) - random.nextInt(2);
        }
        return nearly(random, ask(m, "receiptOf", receipt, 5));
    }

    private static void lose(Random random, Model m, int[] a) {
        int bin = random.nextInt(5);
        fill(a, bin, nearly(random, ask(m, "binOf", bin, 2)), 0);
    }

    private static String order(Random random, Model m) {
        int receipt = some(random, m);
        String zeros = random.nextInt(4) == 0 ? "00" : "";
        String good;
        switch (random.nextInt(7)) {
            case 0 -> good = "s" + random.nextInt(5) + "," + random.nextInt(3) + "," + zeros + up(random, 300);
            case 1 -> good = "l" + receipt + "," + random.nextInt(3) + ","
                    + nearly(random, ask(m, "receiptOf", receipt, 7));
            case 2 -> good = "p" + random.nextInt(3) + "," + zeros + up(random, 20);
            case 3 -> good = "c" + zeros + random.nextInt(3);
            case 4 -> good = "d" + receipt;
            default -> good = "t" + zeros + up(random, 4);
        }
        if (random.nextInt(12) == 0) {
            int cut = random.nextInt(good.length());
            return good.substring(0, cut) + "s,;9 0t".charAt(random.nextInt(7)) + good.substring(cut) + ";";
        }
        return good.replace("-", "") + ";";
    }

    private static int answer(GrainReceipts x, String call, int p, int q, int r) {
        switch (call) {
            case "store": return x.store(p, q, r);
            case "split": return x.split(p, q);
            case "join": return x.join(p, q);
            case "hand": return x.hand(p, q);
            case "deliver": return x.deliver(p);
            case "pledge": return x.pledge(p, q, r);
            case "repay": return x.repay(p, q);
            case "price": return x.price(p, q);
            case "call": return x.call(p);
            case "pass": return x.pass(p);
            case "lose": return x.lose(p, q);
            case "regrade": return x.regrade(p, q);
            case "set": return x.set(p, q);
            case "receiptOf": return x.receiptOf(p, q);
            case "receipt": return x.receipt(p);
            case "binOf": return x.binOf(p, q);
            case "gradeOf": return x.gradeOf(p, q);
            case "ownerOf": return x.ownerOf(p, q);
            case "lenderOf": return x.lenderOf(p, q);
            case "fallTo": return x.fallTo(p);
            case "count": return x.count(p);
            case "undo": return x.undo();
            case "type": return x.type(p);
            case "clearText": return x.clearText();
            case "fault": return x.fault(p);
            default: return x.play();
        }
    }
}
