/** The edges that "Texts" and the promises 24 to 27 name: the sentence stands above its test. */
public final class TextEdgeTest {
    private static final int MOST = Integer.MAX_VALUE;
    private static final int LEAST = Integer.MIN_VALUE;
    private static final int FORM = 1;
    private static final int CALL = 2;
    private static final String[] ORDERS = {"s0,1,25;", "l0,1,25;", "p0,25;", "c1;", "d0;", "t25;"};

    public static void main(String[] args) {
        typeRange();
        sixtyCharacters();
        clearEdges();
        digits();
        endsTooEarly();
        breaksOff();
        endingSign();
        storeOrders();
        pledgeOrders();
        priceOrders();
        callOrders();
        deliverOrders();
        passOrders();
        doneAhead();
        firstFault();
        faultRange();
        noFault();
        playEdges();
        playIsOneChange();
        Check.end();
    }

    /** Promise 24: "character: 32 to 126" */
    private static void typeRange() {
        for (int character = 32; character <= 126; character++) {
            int each = character;
            Story.EMPTY.answers("character " + character, x -> x.type(each), 1);
        }
        for (int character : new int[] {31, 127, 0, -1, 128, 255, 256 + 's', 65536 + 's', MOST, LEAST}) {
            Story.EMPTY.refuses("character " + character, x -> x.type(character), Check.INVALID);
            Story.FULL_TEXT.refuses("full, character " + character, x -> x.type(character), Check.INVALID);
        }
    }

    /** "a text of at most 60 characters", "LIMIT_REACHED if it has 60 characters" */
    private static void sixtyCharacters() {
        Story.FULL_TEXT.answers("60", x -> x.count(9), 60);
        Story.FULL_TEXT.refuses("the 61st", x -> x.type(';'), Check.LIMIT);
        Story.FULL_TEXT.refuses("the 61st, the least", x -> x.type(32), Check.LIMIT);
        Story.FULL_TEXT.refuses("the 61st, the greatest", x -> x.type(126), Check.LIMIT);
        Story.FULL_TEXT.answers("no fault", x -> x.fault(0), Check.NOT_FOUND);
        Story.FULL_TEXT.answers("all 20 orders", x -> x.play(), 20);
        Story.FULL_TEXT.and("played", x -> x.play()).answers("day", x -> x.count(3), 20);
        Story most = text("t1;".repeat(19) + "t1");
        most.answers("59", x -> x.count(9), 59);
        most.answers("the 60th", x -> x.type('2'), 60);
        Story open = most.and("no room for the last sign", x -> x.type('2'));
        open.refuses("it", x -> x.type(';'), Check.LIMIT);
        isFault(open, 57, FORM, 3);
        most.and("room for it", x -> x.type(';')).answers("20 orders", x -> x.play(), 20);
        isFault(text("t1;".repeat(19) + "t1x"), 57, FORM, 2);
        isFault(text("t1;".repeat(19) + "t0;"), 57, CALL, Check.INVALID);
        isFault(text(";".repeat(60)), 0, FORM, 0);
        isFault(text("s" + "0".repeat(59)), 0, FORM, 7);
        isFault(text("t1;".repeat(19) + "c2;"), 0, 0, 0);
    }

    private static Story text(String text) {
        return text(Story.EMPTY, text);
    }

    private static Story text(Story story, String text) {
        return story.and(story.name + ", text " + text, x -> Story.type(x, text));
    }

    /** Reason 0 stands for no fault. */
    private static void isFault(Story story, int position, int reason, int cause) {
        int[] want = {position, reason, cause};
        for (int what = 0; what < 3; what++) {
            int each = what;
            story.answers("fault " + what, x -> x.fault(each), reason == 0 ? Check.NOT_FOUND : want[what]);
        }
        if (reason == 0) {
            story.goesAndIsUndone("play", GrainReceipts::play);
        } else {
            story.refuses("play", GrainReceipts::play, Check.NOT_POSSIBLE);
        }
    }

    /** "There is a text .., initially empty"; promise 25: "Empties the text. Returns the length it had." */
    private static void clearEdges() {
        Story.EMPTY.answers("at first", x -> x.count(9), 0);
        Story.EMPTY.answers("clear nothing", x -> x.clearText(), 0);
        Story.FULL_TEXT.answers("clear 60", x -> x.clearText(), 60);
        Story cleared = Story.FULL_TEXT.and("cleared", x -> x.clearText());
        cleared.answers("length", x -> x.count(9), 0);
        cleared.answers("nothing to clear", x -> x.clearText(), 0);
        cleared.answers("room again", x -> x.type('x'), 1);
        cleared.answers("no orders", x -> x.play(), 0);
        cleared.refuses("no fault", x -> x.fault(0), Check.NOT_FOUND);
        cleared.answers("no change", x -> x.count(8), Story.ONE.tell().count(8));
        Story again = text(cleared, "t1;".repeat(20));
        again.answers("60 again", x -> x.count(9), 60);
        again.refuses("the 61st again", x -> x.type('t'), Check.LIMIT);
        isFault(text(cleared, "t1"), 0, FORM, 2);
        Story faulty = Story.FAULTY_TEXT.and("cleared", x -> x.clearText());
        faulty.refuses("no fault any more", x -> x.fault(1), Check.NOT_FOUND);
    }

    /** "numbers of 1 to 6 digits, 0 ahead allowed" */
    private static void digits() {
        isFault(text("t1;"), 0, 0, 0);
        isFault(text("t000001;"), 0, 0, 0);
        isFault(text("t0000001;"), 0, FORM, 7);
        isFault(text("t;"), 0, FORM, 1);
        isFault(text("c0;"), 0, 0, 0);
        isFault(text("c000000;"), 0, 0, 0);
        isFault(text("c0000000;"), 0, FORM, 7);
        isFault(text("s000004,000002,002000;"), 0, 0, 0);
        isFault(text("s0000004,000002,002000;"), 0, FORM, 7);
        isFault(text("s000004,0000002,002000;"), 0, FORM, 14);
        isFault(text("s000004,000002,0002000;"), 0, FORM, 21);
        isFault(text("s,0,1;"), 0, FORM, 1);
        isFault(text("s0,,1;"), 0, FORM, 3);
        isFault(text("s0,0,;"), 0, FORM, 5);
        isFault(text("p000002,000099;"), 0, 0, 0);
        isFault(text("p0000002,99;"), 0, FORM, 7);
        isFault(text("p2,0000099;"), 0, FORM, 9);
        isFault(text(Story.ONE, "l000000,000002,000700;"), 0, 0, 0);
        isFault(text(Story.ONE, "l000000,000002,0000700;"), 0, FORM, 21);
        isFault(text(Story.ONE, "d000000;"), 0, 0, 0);
        isFault(text(Story.ONE, "d0000000;"), 0, FORM, 7);
        isFault(text("t999999;"), 0, CALL, Check.INVALID);
        isFault(text("t1000000;"), 0, FORM, 7);
        isFault(text("t4294967297;"), 0, FORM, 7);
        isFault(text("d999999;"), 0, CALL, Check.INVALID);
        text("t000099;").and("played", x -> x.play()).answers("99 days", x -> x.count(3), 99);
    }

    /** "(of one that the text ends too early it is its length)" */
    private static void endsTooEarly() {
        for (String order : ORDERS) {
            for (int length = 1; length < order.length(); length++) {
                isFault(text(order.substring(0, length)), 0, FORM, length);
                isFault(text("t9;" + order.substring(0, length)), 3, FORM, length);
            }
        }
        isFault(text("t123456"), 0, FORM, 7);
        isFault(text("t1234567"), 0, FORM, 7);
    }

    /** "at which character of the order, from 0, it breaks off" */
    private static void breaksOff() {
        for (String order : ORDERS) {
            for (int place = 0; place < order.length(); place++) {
                for (char wrong : new char[] {' ', '~', '/', ':', '-', 'S', 'a', '.'}) {
                    String broken = order.substring(0, place) + wrong + order.substring(place + 1);
                    isFault(text("c0;" + broken + "c0;"), 3, FORM, place);
                }
            }
        }
        for (char letter = 32; letter < 127; letter++) {
            if ("slpcdt".indexOf(letter) < 0) {
                isFault(text(letter + "0;"), 0, FORM, 0);
            }
        }
        for (char digit = '0'; digit <= '9'; digit++) {
            isFault(text("p1,1" + digit + ";"), 0, 0, 0);
        }
    }

    /** "each followed by ';'", "if it is not of this form, its ';' included" */
    private static void endingSign() {
        isFault(text("c0"), 0, FORM, 2);
        isFault(text("c0c0;"), 0, FORM, 2);
        isFault(text("c0,"), 0, FORM, 2);
        isFault(text("c0;;"), 3, FORM, 0);
        isFault(text(";c0;"), 0, FORM, 0);
        isFault(text("c0; "), 3, FORM, 0);
        isFault(text("c0;c0"), 3, FORM, 2);
        isFault(text("p1,2,3;"), 0, FORM, 4);
        isFault(text("p1;"), 0, FORM, 2);
        isFault(text("s1,2;"), 0, FORM, 4);
        isFault(text("s1,2,3,4;"), 0, FORM, 6);
        isFault(text("l1,2;"), 0, FORM, 4);
        isFault(text("t1,2;"), 0, FORM, 2);
        isFault(text("d1,2;"), 0, FORM, 2);
    }

    /** "s" and its errors: "otherwise 2, .. the error code that the call returns for it" */
    private static void storeOrders() {
        isFault(text("s0,0,1;"), 0, 0, 0);
        isFault(text("s4,2,2000;"), 0, 0, 0);
        isFault(text("s0,1,4000;"), 0, 0, 0);
        isFault(text("s5,0,1;"), 0, CALL, Check.INVALID);
        isFault(text("s0,3,1;"), 0, CALL, Check.INVALID);
        isFault(text("s0,0,0;"), 0, CALL, Check.INVALID);
        isFault(text("s0,0,4001;"), 0, CALL, Check.INVALID);
        isFault(text("s0,2,2001;"), 0, CALL, Check.LIMIT);
        isFault(text("s0,2,2000;s0,2,1;"), 10, CALL, Check.LIMIT);
        isFault(text(Story.SIXTEEN, "s0,1,1;"), 0, CALL, Check.LIMIT);
        Story eight = Story.EMPTY.and("8 receipts", x -> {
            for (int i = 0; i < 8; i++) {
                x.store(0, 0, 1);
            }
        });
        isFault(text(eight, "s0,1,1;".repeat(8)), 0, 0, 0);
        isFault(text(eight.and("9 receipts", x -> x.store(0, 0, 1)), "s0,1,1;".repeat(8)), 49, CALL, Check.LIMIT);
    }

    /** "l" and its errors */
    private static void pledgeOrders() {
        isFault(text(Story.ONE, "l0,0,1;"), 0, 0, 0);
        isFault(text(Story.ONE, "l0,2,700;"), 0, 0, 0);
        isFault(text(Story.ONE, "l0,0,701;"), 0, CALL, Check.NOT_POSSIBLE);
        isFault(text(Story.ONE, "l0,3,1;"), 0, CALL, Check.INVALID);
        isFault(text(Story.ONE, "l0,0,0;"), 0, CALL, Check.INVALID);
        isFault(text(Story.ONE, "l1,0,1;"), 0, CALL, Check.INVALID);
        isFault(text(Story.ONE, "l0,0,1;l0,0,1;"), 7, CALL, Check.NOT_POSSIBLE);
        isFault(text(Story.SEIZED, "l0,0,1;"), 0, CALL, Check.NOT_POSSIBLE);
        isFault(text(Story.EMPTY, "l0,0,1;"), 0, CALL, Check.INVALID);
        Story dear = Story.GREATEST.and("dear", x -> {
            x.set(0, 100);
            x.price(2, 99);
        });
        isFault(text(dear, "l0,0,990000;"), 0, 0, 0);
        isFault(text(dear, "l0,0,990001;"), 0, CALL, Check.NOT_POSSIBLE);
        isFault(text(dear, "l0,0,999999;"), 0, CALL, Check.NOT_POSSIBLE);
    }

    /** "p" and its errors */
    private static void priceOrders() {
        isFault(text("p0,1;"), 0, 0, 0);
        isFault(text("p2,99;"), 0, 0, 0);
        isFault(text("p3,1;"), 0, CALL, Check.INVALID);
        isFault(text("p0,0;"), 0, CALL, Check.INVALID);
        isFault(text("p2,100;"), 0, CALL, Check.INVALID);
        text("p0,1;p1,99;").and("played", x -> x.play()).answers("grade 0", x -> x.gradeOf(0, 0), 1);
        text("p0,1;p1,99;").and("played", x -> x.play()).answers("grade 1", x -> x.gradeOf(1, 0), 99);
    }

    /** "c" and its error */
    private static void callOrders() {
        isFault(text("c0;"), 0, 0, 0);
        isFault(text("c2;"), 0, 0, 0);
        isFault(text("c3;"), 0, CALL, Check.INVALID);
        isFault(text("c999999;"), 0, CALL, Check.INVALID);
        Story cheap = text(Story.PLEDGED.and("cheap", x -> x.price(2, 5)), "c0;").and("played", x -> x.play());
        cheap.answers("called", x -> x.receiptOf(0, 6), 3);
    }

    /** "d" and its errors */
    private static void deliverOrders() {
        isFault(text(Story.ONE, "d0;"), 0, 0, 0);
        isFault(text(Story.ONE, "d1;"), 0, CALL, Check.INVALID);
        isFault(text(Story.ONE, "d0;d0;"), 3, CALL, Check.INVALID);
        isFault(text(Story.PLEDGED, "d0;"), 0, CALL, Check.NOT_POSSIBLE);
        isFault(text(Story.SIXTEEN, "d15;"), 0, 0, 0);
        isFault(text(Story.SIXTEEN, "d16;"), 0, CALL, Check.INVALID);
    }

    /** "t" and its error */
    private static void passOrders() {
        isFault(text("t1;"), 0, 0, 0);
        isFault(text("t99;"), 0, 0, 0);
        isFault(text("t0;"), 0, CALL, Check.INVALID);
        isFault(text("t100;"), 0, CALL, Check.INVALID);
        isFault(text("t99;t99;t100;"), 8, CALL, Check.INVALID);
    }

    /** "when those ahead of it are done" */
    private static void doneAhead() {
        isFault(text("s0,0,10;d0;"), 0, 0, 0);
        isFault(text("d0;s0,0,10;"), 0, CALL, Check.INVALID);
        isFault(text("s0,0,10;l0,0,70;"), 0, 0, 0);
        isFault(text("s0,0,10;l0,0,71;"), 8, CALL, Check.NOT_POSSIBLE);
        isFault(text("s0,0,10;p2,11;l0,0,71;"), 0, 0, 0);
        isFault(text("s0,0,10;l0,0,70;p2,7;c0;t2;d0;"), 27, CALL, Check.NOT_POSSIBLE);
        isFault(text("s0,0,10;l0,0,70;p2,7;c0;t3;d0;"), 0, 0, 0);
        isFault(text("s0,0,10;s0,0,10;d1;d0;"), 0, 0, 0);
        isFault(text(Story.SIXTEEN, "d0;s0,1,1;s0,1,1;"), 10, CALL, Check.LIMIT);
        isFault(text(Story.SIXTEEN, "d0;s0,1,1;d16;d17;"), 14, CALL, Check.INVALID);
    }

    /** "the position, from 0, of the first character of the first order that is not possible" */
    private static void firstFault() {
        isFault(text("x"), 0, FORM, 0);
        isFault(text("c0;x"), 3, FORM, 0);
        isFault(text("c3;x"), 0, CALL, Check.INVALID);
        isFault(text("x;c3;"), 0, FORM, 0);
        isFault(text("c0;x;c3;"), 3, FORM, 0);
        isFault(text("c0;c3;c0;c4;"), 3, CALL, Check.INVALID);
        isFault(text("c0;c1;c2;c3"), 9, FORM, 2);
        isFault(text("s0,0,4001;s0,0"), 0, CALL, Check.INVALID);
    }

    /** Promise 26: "what: 0 .. 2", "INVALID_ARGUMENT if what is out of range" */
    private static void faultRange() {
        for (int what : new int[] {-1, 3, MOST, LEAST}) {
            Story.EMPTY.refuses("what " + what, x -> x.fault(what), Check.INVALID);
            Story.FULL_TEXT.refuses("what " + what, x -> x.fault(what), Check.INVALID);
            Story.FAULTY_TEXT.refuses("what " + what, x -> x.fault(what), Check.INVALID);
        }
        isFault(Story.FAULTY_TEXT, 3, CALL, Check.INVALID);
    }

    /** "NOT_FOUND if the text has no fault (also if it is empty)" */
    private static void noFault() {
        for (int what = 0; what < 3; what++) {
            int each = what;
            Story.EMPTY.refuses("empty", x -> x.fault(each), Check.NOT_FOUND);
            Story.FULL_TEXT.refuses("full", x -> x.fault(each), Check.NOT_FOUND);
            Story.MIXED.refuses("some", x -> x.fault(each), Check.NOT_FOUND);
        }
        Story asked = Story.FULL_TEXT.and("asked for a fault", x -> x.fault(0));
        asked.answers("no day has passed", x -> x.count(3), 0);
        asked.answers("no change", x -> x.count(8), Story.FULL_TEXT.tell().count(8));
        Story mended = text(Story.FAULTY_TEXT.and("cleared", x -> x.clearText()), "c2;");
        isFault(mended, 0, 0, 0);
        Story later = text(Story.ONE, "d0;").and("played", x -> x.play());
        isFault(later, 0, CALL, Check.INVALID);
        isFault(later.and("undone", x -> x.undo()), 0, 0, 0);
    }

    /** Promise 27: "Does all orders of the text, which stays." "NOT_POSSIBLE if it has a fault" */
    private static void playEdges() {
        Story.EMPTY.answers("none", x -> x.play(), 0);
        text("c0;").answers("one", x -> x.play(), 1);
        Story.FULL_TEXT.answers("20", x -> x.play(), 20);
        Story.FAULTY_TEXT.refuses("a fault at the end", GrainReceipts::play, Check.NOT_POSSIBLE);
        text("c3;t1;").refuses("a fault ahead", GrainReceipts::play, Check.NOT_POSSIBLE);
        text("t1").refuses("cut off", GrainReceipts::play, Check.NOT_POSSIBLE);
        Story played = Story.FULL_TEXT.and("played", x -> x.play());
        played.answers("the text stays", x -> x.count(9), 60);
        played.answers("and is played again", x -> x.play(), 20);
        played.and("again", x -> x.play()).answers("day", x -> x.count(3), 40);
        Story all = text("s0,0,100;l0,1,600;p2,6;c1;t3;d0;").and("played", x -> x.play());
        all.answers("made", x -> x.count(4), 1);
        all.answers("money", x -> x.ownerOf(0, 0), 600);
        all.answers("price", x -> x.gradeOf(2, 0), 6);
        all.answers("seized", x -> x.count(5), 1);
        all.answers("day", x -> x.count(3), 3);
        all.answers("delivered", x -> x.count(6), 96);
    }

    /** "They are one change, also if there are none." */
    private static void playIsOneChange() {
        Story.EMPTY.goesAndIsUndone("play of nothing", GrainReceipts::play);
        Story.ONE.goesAndIsUndone("play of nothing", GrainReceipts::play);
        Story.SIXTEEN.goesAndIsUndone("play of nothing", GrainReceipts::play);
        Story.FULL_TEXT.goesAndIsUndone("play of 20", GrainReceipts::play);
        Story.MIXED.goesAndIsUndone("play of 2", GrainReceipts::play);
        Story.EMPTY.and("played", x -> x.play()).answers("states", x -> x.count(8), 1);
        text("t1;t1;t1;t1;t1;t1;").and("played", x -> x.play()).answers("states", x -> x.count(8), 1);
    }
}
