/** Promises 24 to 27: type, clearText, fault, play. */
public final class TextTest {
    public static void main(String[] args) {
        types();
        clears();
        breaksOff();
        fails();
        firstFaultCounts();
        goodForms();
        plays();
        playIsOneChange();
        playOfNothing();
        faultChangesNothing();
        Check.end();
    }

    private static void types() {
        GrainReceipts x = new GrainReceipts();
        Check.due("31", x.type(31), Check.INVALID);
        Check.due("127", x.type(127), Check.INVALID);
        Check.due("-1", x.type(-1), Check.INVALID);
        Check.due("65536 + 65", x.type(65536 + 65), Check.INVALID);
        Check.due("32", x.type(32), 1);
        Check.due("126", x.type(126), 2);
        for (int i = 3; i <= 60; i++) {
            Check.due("character " + i, x.type('s'), i);
        }
        Check.due("the 61st", x.type('s'), Check.LIMIT);
        Check.due("wrong rather than full", x.type(31), Check.INVALID);
        Check.due("length", x.count(9), 60);
        Check.due("no change", x.count(8), 0);
    }

    private static void clears() {
        GrainReceipts x = new GrainReceipts();
        Check.due("empty", x.clearText(), 0);
        Check.typeText(x, "zzz");
        Check.due("length", x.clearText(), 3);
        Check.due("length now", x.count(9), 0);
        Check.due("no fault", x.fault(1), Check.NOT_FOUND);
        Check.due("from the start", x.type('a'), 1);
        Check.due("a fault", x.fault(0), 0);
        x.clearText();
        Check.due("no fault any more", x.fault(0), Check.NOT_FOUND);
        Check.typeText(x, "t12;t1;");
        x.clearText();
        Check.typeText(x, "t12");
        Check.due("nothing of the old text", x.fault(2), 3);
        Check.due("no change", x.count(8), 0);
    }

    private static void fault(String text, int position, int reason, int cause) {
        GrainReceipts x = new GrainReceipts();
        Check.typeText(x, text);
        Check.due("position in " + text, x.fault(0), position);
        Check.due("reason in " + text, x.fault(1), reason);
        Check.due("cause in " + text, x.fault(2), cause);
        Check.due("play of " + text, x.play(), Check.NOT_POSSIBLE);
        Check.due("nothing done of " + text, x.count(8) + x.count(4) + x.count(3), 0);
    }

    private static void breaksOff() {
        fault("x", 0, 1, 0);
        fault(";", 0, 1, 0);
        fault(" c0;", 0, 1, 0);
        fault("S0,0,1;", 0, 1, 0);
        fault("s", 0, 1, 1);
        fault("s;", 0, 1, 1);
        fault("s-1,0,1;", 0, 1, 1);
        fault("s0", 0, 1, 2);
        fault("s0;", 0, 1, 2);
        fault("s0,", 0, 1, 3);
        fault("s0,,1;", 0, 1, 3);
        fault("s0,0,1", 0, 1, 6);
        fault("s0,0,1,2;", 0, 1, 6);
        fault("s0,0,1 ;", 0, 1, 6);
        fault("s0,0,1234567;", 0, 1, 11);
        fault("s0000000,0,1;", 0, 1, 7);
        fault("l0,0", 0, 1, 4);
        fault("l0,0;", 0, 1, 4);
        fault("p0,0,1;", 0, 1, 4);
        fault("p0;", 0, 1, 2);
        fault("c;", 0, 1, 1);
        fault("c0,1;", 0, 1, 2);
        fault("d", 0, 1, 1);
        fault("d1234567;", 0, 1, 7);
        fault("t1", 0, 1, 2);
        fault("t1:", 0, 1, 2);
        fault("t1;x", 3, 1, 0);
        fault("t1;c0;p1", 6, 1, 2);
        fault("t1; c0;", 3, 1, 0);
    }

    private static void fails() {
        fault("s5,0,1;", 0, 2, Check.INVALID);
        fault("s0,2,2001;", 0, 2, Check.LIMIT);
        fault("p0,100;", 0, 2, Check.INVALID);
        fault("c3;", 0, 2, Check.INVALID);
        fault("t0;", 0, 2, Check.INVALID);
        fault("t999999;", 0, 2, Check.INVALID);
        fault("d0;", 0, 2, Check.INVALID);
        fault("l0,0,1;", 0, 2, Check.INVALID);
        fault("s0,0,9;l0,0,64;", 7, 2, Check.NOT_POSSIBLE);
        fault("s0,0,9;l0,0,1;d0;", 14, 2, Check.NOT_POSSIBLE);
        fault("s0,0,9;d0;d0;", 10, 2, Check.INVALID);
        fault("t99;t99;t100;", 8, 2, Check.INVALID);
    }

    private static void firstFaultCounts() {
        fault("d0;x", 0, 2, Check.INVALID);
        fault("c0;x;d0;", 3, 1, 0);
    }

    private static void goodForms() {
        GrainReceipts x = new GrainReceipts();
        Check.due("what 3", x.fault(3), Check.INVALID);
        Check.due("what -1", x.fault(-1), Check.INVALID);
        for (int what = 0; what < 3; what++) {
            Check.due("empty", x.fault(what), Check.NOT_FOUND);
        }
        Check.typeText(x, "s000004,00,004000;p000002,099;l0,2,000001;c0;d999999;");
        Check.due("all but the last", x.fault(0), 45);
        Check.due("of good form", x.fault(1), 2);
        Check.due("what 3 with a fault", x.fault(3), Check.INVALID);
    }

    private static void plays() {
        GrainReceipts x = new GrainReceipts();
        Check.typeText(x, "s1,0,100;l0,1,600;p2,6;c1;t2;");
        Check.due("no fault", x.fault(0), Check.NOT_FOUND);
        Check.due("orders", x.play(), 5);
        Check.due("text stays", x.count(9), 29);
        Check.due("stored", x.receiptOf(0, 2), 96);
        Check.due("pledged", x.receiptOf(0, 5), 600);
        Check.due("lender", x.receiptOf(0, 4), 1);
        Check.due("price", x.gradeOf(2, 0), 6);
        Check.due("called, passed", x.receiptOf(0, 6), 1);
        Check.due("day", x.count(3), 2);
        x.clearText();
        Check.typeText(x, "t1;d0;");
        Check.due("both", x.play(), 2);
        Check.due("seized", x.count(5), 1);
        Check.due("delivered", x.count(6), 96);
    }

    private static void playIsOneChange() {
        GrainReceipts x = new GrainReceipts();
        Check.typeText(x, "t1;t2;t3;t4;t5;t6;");
        Check.due("play", x.play(), 6);
        Check.due("one state", x.count(8), 1);
        Check.due("day", x.count(3), 21);
        x.price(0, 31);
        x.undo();
        x.undo();
        Check.due("back", x.count(3), 0);
        x.play();
        Check.due("again", x.play(), 6);
        Check.due("day again", x.count(3), 42);
        Check.due("undo", x.undo(), 1);
        Check.due("day before", x.count(3), 21);
        Check.due("undo the first", x.undo(), 0);
        Check.due("first day", x.count(3), 0);
        Check.due("text stays", x.count(9), 18);
    }

    private static void playOfNothing() {
        GrainReceipts x = new GrainReceipts();
        Check.due("no orders", x.play(), 0);
        Check.due("a change", x.count(8), 1);
        Check.due("undo", x.undo(), 0);
    }

    private static void faultChangesNothing() {
        GrainReceipts x = new GrainReceipts();
        Check.typeText(x, "s0,0,100;t5;x");
        Check.due("fault", x.fault(0), 12);
        Check.due("play", x.play(), Check.NOT_POSSIBLE);
        Check.due("no receipt", x.count(4), 0);
        Check.due("no day", x.count(3), 0);
        Check.due("no grain", x.count(2), 0);
        Check.due("no state", x.count(8), 0);
        Check.due("text stays", x.count(9), 13);
    }
}
