/** The sentences of the promises 27 to 30: texts and reasons. */
final class TextsEdges extends Edges {
    private static final String FULL_TEXT = "d0;".repeat(19) + "d11";

    @Says(in = "27", sentence = "Appends a character to the input.")
    void theFirstAndTheLastCharacter() {
        IceConvoys x = new IceConvoys();
        type(x, FULL_TEXT);
        c.due("60 characters in their order", 20, x::read);
        c.due("the last order has its last character", bits(30.0f), () -> x.drilled(11));
        c.due("no order of a part of it", NONE, () -> x.drilled(1));
        IceConvoys y = new IceConvoys();
        type(y, "p3");
        y.read();
        c.due("behind a read the first again", 1, () -> y.append('d'));
        y.append('4');
        c.due("nothing of the earlier text", 1, y::read);
        c.due("drilled", bits(grown(30.0f, 20, 3)), () -> y.drilled(4));
    }

    @Says(in = "27", sentence = "Returns the characters in the input then.")
    void charactersThen() {
        IceConvoys x = new IceConvoys();
        for (int count = 1; count <= 60; count++) {
            c.due("characters", count, () -> x.append('0'));
        }
        c.due("read", ARGUMENT, x::read);
        c.due("the first again", 1, () -> x.append('0'));
        for (char odd : new char[] {'\u0000', '\n', '\u007f', '\u0080', '\u00ff', '\u0100', '\ud800', '\uffff'}) {
            IceConvoys y = new IceConvoys();
            c.due("the character " + (int) odd, 1, () -> y.append(odd));
            c.due("it is no order", ARGUMENT, y::read);
            c.due("at its place", 0, y::errorPosition);
        }
    }

    @Says(in = "27", sentence = "Throws `IllegalStateException` if the input contains 60 characters")
    void appendToAFullInput() {
        dueThrow("the 61st", STATE, TextsEdges::withFullText, x -> x.append(';'));
        IceConvoys x = withFullText();
        c.due("the 61st", STATE, () -> x.append('2'));
        c.due("the text is read as it was", 20, x::read);
        IceConvoys y = new IceConvoys();
        type(y, FULL_TEXT.substring(0, 59));
        c.due("the 60th", 60, () -> y.append('0'));
    }

    private static IceConvoys withFullText() {
        IceConvoys x = new IceConvoys();
        type(x, FULL_TEXT);
        return x;
    }

    @Says(in = "28", sentence = "Carries out the text in the input, which is empty afterwards, also if an exception is thrown.")
    void emptyAfterwards() {
        dueEmpty("carried out", 1, "d0");
        dueEmpty("an error", ARGUMENT, "d0x");
        dueEmpty("no such mile", ARGUMENT, "d12");
        dueEmpty("refused", REFUSED, "s0");
        dueEmpty("no text", ARGUMENT, "");
        dueEmpty("60 characters", 20, FULL_TEXT);
        dueEmpty("60 wrong characters", ARGUMENT, "x".repeat(60));
    }

    private void dueEmpty(String what, Object answer, String text) {
        IceConvoys x = withConvoys(1);
        type(x, text);
        c.due(what, answer, x::read);
        c.due(what + ": empty", 0, () -> x.account(13));
        c.due(what + ": read again", ARGUMENT, x::read);
        c.due(what + ": an empty text", 0, x::errorPosition);
        c.due(what + ": the first character", 1, () -> x.append('d'));
    }

    @Says(in = "28", sentence = "Returns the number of orders.")
    void numberOfOrders() {
        StringBuilder text = new StringBuilder();
        for (int orders = 1; orders <= 20; orders++) {
            text.append(orders == 1 ? "" : ";").append("d").append(orders % 10);
            IceConvoys x = new IceConvoys();
            c.due("orders of " + text, orders, () -> read(x, text.toString()));
            c.due("drills by " + text, orders, () -> x.account(11));
            c.due("one change", 1, () -> x.account(14));
        }
        c.due("the longest orders", 8, () -> read(withFullRows(), "t-10;p30;d11;t-40;p01;d00;t-0;t10"));
    }

    @Says(in = "28", sentence = "Throws `IllegalArgumentException` if the text has an error")
    void textsWithAnError() {
        dueUnread("", ARGUMENT, 0, TextsEdges::withRowsAndConvoys);
        dueUnread("q", ARGUMENT, 0, TextsEdges::withRowsAndConvoys);
        dueUnread("d0;p1;t5;j0:0.0;s0;r0;", ARGUMENT, 22, TextsEdges::withRowsAndConvoys);
        dueUnread("d0;p1;t5;j0:0.0;s0;r0!", ARGUMENT, 21, TextsEdges::withRowsAndConvoys);
        dueUnread("d0;".repeat(20), ARGUMENT, 60, TextsEdges::withRowsAndConvoys);
        dueUnread(FULL_TEXT.substring(0, 59) + ";", ARGUMENT, 60, TextsEdges::withRowsAndConvoys);
    }

    private static IceConvoys withRowsAndConvoys() {
        IceConvoys x = withFullRows();
        x.convoy(1);
        x.convoy(2);
        x.save();
        return x;
    }

    @Says(in = "28", sentence = "or the method for an order would throw another exception than UnsupportedOperationException; if the text has no error, its position is -1")
    void ordersThatThrowAnotherException() {
        String[] texts = {"d12", "d99", "s2", "s9", "r2", "r9", "t11", "t99", "t-41", "t-99", "j2:0.0", "j9:0.0", "j0:2.0",
            "j0:9.0", "j0:0.5", "j0:0.9", "j0:0.0;j0:0.0", "p0", "p00", "p31", "p99"};
        for (String text : texts) {
            dueUnread(text, ARGUMENT, -1, TextsEdges::withRowsAndConvoys);
            dueUnread("p1;d0;" + text, ARGUMENT, -1, TextsEdges::withRowsAndConvoys);
        }
    }

    @Says(in = "28", sentence = "Throws `UnsupportedOperationException` if it is refused for a reason of the method for an order; the reason is kept for refusal")
    void refusedTexts() {
        dueRefusedText("r1", 4, 1, TextsEdges::withRowsAndConvoys);
        dueRefusedText("d0;j0:0.0;s0;s0", 4, 0, TextsEdges::withRowsAndConvoys);
        dueRefusedText("d0;j0:0.0;s0;j0:0.1", 4, 0, TextsEdges::withRowsAndConvoys);
        dueRefusedText("j1:0.0;j1:0.1;j1:0.2;j1:0.3;j1:0.4", 1, 4, TextsEdges::withRowsAndConvoys);
        dueRefusedText("s1", 5, 1, TextsEdges::withRowsAndConvoys);
        dueRefusedText("r0;r0", 6, 0, () -> rolled(11, 1, 5));
        dueRefusedText("d0;j0:0.0;j1:0.1;s1;s0", 7, 0, TextsEdges::withRowsAndConvoys);
        dueRefusedText("d0;j0:0.0;s0;d2;r0", 8, 1, TextsEdges::withRowsAndConvoys);
    }

    private void dueRefusedText(String text, int reason, int detail, Making making) {
        dueUnread(text, REFUSED, -1, making);
        IceConvoys x = making.road();
        type(x, text);
        c.refused(text, x, reason, detail, x::read);
    }

    @Says(in = "29", sentence = "Returns the error position of the text of the latest call of read.")
    void positionOfTheLatestText() {
        IceConvoys x = new IceConvoys();
        c.due("an error at 0", ARGUMENT, () -> read(x, "q"));
        c.due("0", 0, x::errorPosition);
        type(x, "p1;q");
        c.due("not of a text that was not read", 0, x::errorPosition);
        c.due("a later error", ARGUMENT, x::read);
        c.due("3", 3, x::errorPosition);
        c.due("the last of a full input", ARGUMENT, () -> read(x, "d0;".repeat(20)));
        c.due("60", 60, x::errorPosition);
        dueOnlyAnswer("asked", 3, Edges::busy, y -> y.errorPosition());
    }

    @Says(in = "29", sentence = "or -1 if that text had no error or read has not been called.")
    void noPosition() {
        IceConvoys x = withConvoys(1);
        c.due("not read", -1, x::errorPosition);
        c.due("carried out", 1, () -> read(x, "p1"));
        c.due("no error", -1, x::errorPosition);
        c.due("an error", ARGUMENT, () -> read(x, "p1;"));
        c.due("its position", 3, x::errorPosition);
        c.due("carried out", 1, () -> read(x, "p1"));
        c.due("no error any more", -1, x::errorPosition);
        c.due("an error", ARGUMENT, () -> read(x, "p"));
        c.due("refused", REFUSED, () -> read(x, "s0"));
        c.due("no error any more", -1, x::errorPosition);
        c.due("an error", ARGUMENT, () -> read(x, "p"));
        c.due("out of range", ARGUMENT, () -> read(x, "p31"));
        c.due("no error any more", -1, x::errorPosition);
    }

    @Says(in = "30", sentence = "Returns the reason of the latest refusal.")
    void theLatestRefusal() {
        IceConvoys x = withConvoys(4);
        c.refused("first", x, 1, 4, () -> x.convoy(1));
        c.refused("then", x, 5, 3, () -> x.start(3));
        c.refused("by a text", x, 4, 2, () -> read(x, "r2"));
        c.due("why is no refusal", 4, () -> x.why(1, false));
        c.due("another exception is none", INDEX, () -> x.roll(4));
        c.due("a change is none", 4, () -> x.set(0, 0) == -20 ? 4 : 0);
        c.due("the detail of the text's", 2, () -> x.refusal(true));
        c.refused("the same again", x, 4, 2, () -> x.roll(2));
        c.refused("a detail of 0", x, 3, 0, () -> x.truck(1, 5, 2, 0));
    }

    @Says(in = "30", sentence = "Returns the reason or the detail.")
    void reasonsAndDetails() {
        dueRefusal(1, 4, () -> withConvoys(4), x -> x.convoy(1));
        dueRefusal(2, 0, Edges::withFullRows, x -> x.truck(0, 5, 2, 0));
        dueRefusal(3, 1, IceConvoys::new, x -> x.truck(0, 5, 2, 1));
        dueRefusal(4, 3, () -> withConvoys(4), x -> x.roll(3));
        dueRefusal(5, 0, () -> withConvoys(1), x -> x.start(0));
        dueRefusal(6, 0, () -> rolled(12, 1, 5), x -> x.roll(0));
        dueRefusal(7, 1, Edges::busy, x -> x.roll(1));
        dueRefusal(8, 0, () -> withConvoy(1, 5), x -> x.start(0));
    }

    /** The reason and its detail can be asked again and again, and this leaves all as it is. */
    private void dueRefusal(int reason, int detail, Making making, Act act) {
        Making refused = () -> {
            IceConvoys x = making.road();
            Checks.outcome(() -> act.on(x));
            return x;
        };
        dueOnlyAnswer("reason", reason, refused, x -> x.refusal(false));
        dueOnlyAnswer("detail", detail, refused, x -> x.refusal(true));
    }

    @Says(in = "30", sentence = "Throws `NoSuchElementException` if nothing was refused")
    void nothingRefused() {
        dueThrow("reason", NONE, IceConvoys::new, x -> x.refusal(false));
        dueThrow("detail", NONE, IceConvoys::new, x -> x.refusal(true));
        IceConvoys x = withConvoys(1);
        c.due("a wrong argument is no refusal", ARGUMENT, () -> x.convoy(0));
        c.due("nor a convoy that is not there", INDEX, () -> x.start(1));
        c.due("nor a text with an error", ARGUMENT, () -> read(x, "s0;"));
        c.due("nor what why tells", 4, () -> x.why(0, false));
        c.due("nothing", NONE, () -> x.refusal(false));
        c.due("no detail", NONE, () -> x.refusal(true));
    }
}
