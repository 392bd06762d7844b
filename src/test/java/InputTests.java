/** Promises 1 to 3, and what promises 4 to 7 say of the input buffer and the error. */
final class InputTests {
    private InputTests() {
    }

    static void run() {
        Check.part("promise 1");
        newObject();
        Check.part("promise 2");
        feed();
        Check.part("promise 3");
        truncate();
        Check.part("promises 4 and 5, input");
        emptied();
        Check.part("promises 6 and 7");
        error();
    }

    private static void newObject() {
        DateHem hem = new DateHem();
        Check.due("state", Texts.stateOf(hem), "clock 0 thread 500 gore 0+180*20 gore 180+180*20"
                + " hem 180 hem 180 hem 180 hem 180 hem 180 hem 180 hem 180 hem 180 hem 180");
        Check.due("spotCount()", hem.spotCount(), 0);
        Check.due("labelCount()", hem.labelCount(), 0);
        Check.due("inputLength", Texts.inputLength(hem), 0);
        Check.due("output", Texts.outputOf(hem), "");
        Check.throwsState("restoreState()", () -> hem.restoreState());
        Check.throwsState("undo()", () -> hem.undo());
        Check.due("NONE", DateHem.NONE, -1);
        DateHem other = new DateHem();
        other.rip(0);
        Check.due("tornSeams() of another", hem.tornSeams(), 0);
    }

    private static void feed() {
        DateHem hem = new DateHem();
        for (int n = 1; n <= 29; n++) {
            Check.due("feed " + n, hem.feed(0, 0, 0, 0, 0), 20 * n);
        }
        hem.truncate(561);
        Check.due("feed at 561", hem.feed(0, 0, 0, 0, 0), 581);
        Check.throwsState("feed at 581", () -> hem.feed(0, 0, 0, 0, 0));
        Check.due("length after refusal", hem.truncate(581), 581);
        hem.truncate(580);
        Check.due("feed at 580", hem.feed(1, 2, 3, 4, 5), 600);
        Check.throwsState("feed at 600", () -> hem.feed(0, 0, 0, 0, 0));
        DateHem order = new DateHem();
        order.feed(0x61626364, 0x65666768, 0x696A6B6C, 0x6D6E6F70, 0x71727374);
        order.truncate(8);
        order.addTown(0, 0);
        Check.due("bytes of the first two", Texts.nameOf(order, 0), "abcdefgh");
        order.feed(0x736E6970, 0x7B616263, 0, 0, 0);
        order.truncate(4);
        order.addTown(0, 0);
        Check.due("bytes in order", Texts.nameOf(order, 1), "snip");
        order.feed(0x20206162, 0x63642020, 0x20202020, 0x676C6F62, 0x65203130);
        order.feed(0x20333530, 0x3B000000, 0, 0, 0);
        order.truncate(25);
        Check.throwsArgument("a text over all five", () -> order.readText());
        Check.due("offset in it", order.errorOffset(), 2);
        order.feed(0x20202020, 0x20202020, 0x676C6F62, 0x65203130, 0x20333530);
        order.feed(0x3B000000, 0, 0, 0, 0);
        order.truncate(21);
        Check.due("a good text over all five", order.readText(), 0);
        Check.due("its width", order.widthOf(1), 350);
        order.feed(-1, Integer.MIN_VALUE, 0, 0, 0);
        order.truncate(4);
        Check.throwsState("high bytes", () -> order.addTown(0, 0));
    }

    private static void truncate() {
        DateHem hem = new DateHem();
        Check.due("0 of 0", hem.truncate(0), 0);
        Check.throwsArgument("1 of 0", () -> hem.truncate(1));
        Check.throwsArgument("-1 of 0", () -> hem.truncate(-1));
        hem.feed(0x61616161, 0x61616161, 0, 0, 0);
        Check.due("20 of 20", hem.truncate(20), 20);
        Check.throwsArgument("21 of 20", () -> hem.truncate(21));
        Check.throwsArgument("least", () -> hem.truncate(Integer.MIN_VALUE));
        Check.throwsArgument("greatest", () -> hem.truncate(Integer.MAX_VALUE));
        Check.due("7 of 20", hem.truncate(7), 7);
        Check.throwsArgument("8 of 7", () -> hem.truncate(8));
        Check.due("addTown with it", hem.addTown(1, 2), 0);
        Check.due("name", Texts.nameOf(hem, 0), "aaaaaaa");
        Check.due("letters cut off", cutError("globe 180 180;passage", 18), "1 at 18");
        Check.due("digits cut off", cutError("globe 180 1800", 13), "1 at 13");
        Check.due("sign cut off", cutError("globe 180 180;", 13), "1 at 13");
        Check.due("blank cut off", cutError("globe  180 180;", 6), "1 at 6");
    }

    /** The error of a description of which only the first bytes are left in the buffer. */
    private static String cutError(String text, int length) {
        DateHem hem = Texts.type(new DateHem(), text);
        hem.truncate(length);
        Check.throwsArgument("a cut text", () -> hem.readText());
        return hem.errorCode() + " at " + hem.errorOffset();
    }

    private static void emptied() {
        DateHem hem = Texts.type(new DateHem(), "globe 180 180;");
        hem.readText();
        Check.due("after a description", Texts.inputLength(hem), 0);
        Check.throwsArgument("a wrong description", () -> Texts.type(hem, "globe x").readText());
        Check.due("after a wrong description", Texts.inputLength(hem), 0);
        Texts.type(hem, "pass 1;").runScript();
        Check.due("after a script", Texts.inputLength(hem), 0);
        Check.throwsArgument("a wrong script", () -> Texts.type(hem, "pass").runScript());
        Check.due("after a wrong script", Texts.inputLength(hem), 0);
    }

    private static void error() {
        DateHem hem = new DateHem();
        Check.due("code at first", hem.errorCode(), 0);
        Check.due("offset at first", hem.errorOffset(), DateHem.NONE);
        Check.throwsArgument("a script", () -> Texts.type(hem, "  repeat 21 ();").runScript());
        Check.due("code after a script", hem.errorCode(), 2);
        Check.due("offset after a script", hem.errorOffset(), 9);
        Texts.type(hem, "").runScript();
        Check.due("code after a good script", hem.errorCode(), 0);
        Check.due("offset after a good script", hem.errorOffset(), DateHem.NONE);
        Check.throwsArgument("a text", () -> Texts.type(hem, "globe 180 170;").readText());
        Check.due("code after a text", hem.errorCode(), 3);
        Check.due("offset after a text", hem.errorOffset(), 13);
        hem.pass(1);
        hem.undo();
        hem.saveState();
        hem.restoreState();
        Check.due("code is kept", hem.errorCode(), 3);
        Check.due("offset is kept", hem.errorOffset(), 13);
        Texts.type(hem, "globe 180 180;").readText();
        Check.due("code after a good text", hem.errorCode(), 0);
        Check.due("offset after a good text", hem.errorOffset(), DateHem.NONE);
    }
}
