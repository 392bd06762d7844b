/** Promises 54, 57 and 58: undo and the saved state. */
final class UndoTests {
    private interface Change {
        void on(DateHem hem);
    }

    private UndoTests() {
    }

    static void run() {
        Check.part("promise 54");
        each();
        crossingsComeBack();
        sixAreRemembered();
        whatUndoLeaves();
        refusedCalls();
        Check.part("promise 57");
        saving();
        Check.part("promise 58");
        restoring();
    }

    private static DateHem subject() {
        return Texts.type(Texts.globe("globe 100 260; person p 4 99; town t 3 5; label a 4 98;"
                + " walk p east 44; pass 5;"), "name");
    }

    private static void undone(String what, Change change) {
        DateHem hem = subject();
        String before = Texts.stateOf(hem);
        change.on(hem);
        Check.due(what + " changes", before.equals(Texts.stateOf(hem)), false);
        Check.due("undo() of " + what, hem.undo(), 0);
        Check.due("state before " + what, Texts.stateOf(hem), before);
        Check.throwsState("undo() once more", () -> hem.undo());
    }

    private static void each() {
        undone("addTown", hem -> hem.addTown(4, 4));
        undone("addTraveller", hem -> hem.addTraveller(4, 4));
        undone("addLabel", hem -> hem.addLabel(4, 4));
        undone("moveHem", hem -> hem.moveHem(4, 170));
        undone("sew", hem -> hem.sew(1, 3));
        undone("rip", hem -> hem.rip(1));
        undone("step", hem -> hem.step(0, 0));
        undone("walk", hem -> hem.walk(0, 1, 3));
        undone("step over the hem", hem -> Texts.type(hem, "hem 4 144; step 0 0;").runScript());
        undone("walk elsewhere", hem -> hem.walk(0, 1, 44));
        undone("pass", hem -> hem.pass(200));
        undone("runScript", hem -> Texts.type(hem, "pass 1; rip 0; sew 1 5; step 0 1;").runScript());
    }

    private static void crossingsComeBack() {
        DateHem hem = Texts.halves("person p 4 179;");
        hem.step(0, 0);
        hem.step(0, 1);
        Check.due("crossings", hem.crossingsOf(0), 2);
        hem.undo();
        Check.due("crossings after undo()", hem.crossingsOf(0), 1);
        Check.due("meridian after undo()", hem.meridianOf(0), 180);
        hem.undo();
        Check.due("crossings after both", hem.crossingsOf(0), 0);
    }

    private static void sixAreRemembered() {
        DateHem hem = new DateHem();
        Check.throwsState("nothing to undo", () -> hem.undo());
        for (int n = 1; n <= 9; n++) {
            hem.pass(n);
        }
        int[] clocks = {36, 28, 21, 15, 10, 6};
        for (int n = 0; n < 6; n++) {
            Check.due("undo() " + n, hem.undo(), 5 - n);
            Check.due("clock() " + n, hem.clock(), clocks[n]);
        }
        Check.throwsState("a 7th undo()", () -> hem.undo());
        Check.due("clock()", hem.clock(), 6);
        hem.pass(1);
        hem.pass(1);
        hem.undo();
        hem.pass(2);
        Check.due("undo() in between", hem.undo(), 1);
        Check.due("clock()", hem.clock(), 7);
        Check.due("undo() of all", hem.undo(), 0);
    }

    private static void whatUndoLeaves() {
        DateHem hem = new DateHem();
        hem.pass(3);
        hem.saveState();
        Texts.type(hem, "abc").addTown(3, 3);
        Check.throwsArgument("an error", () -> Texts.type(hem, "pass").runScript());
        hem.printBand(4);
        String picture = Texts.outputOf(hem);
        Texts.type(hem, "words");
        hem.undo();
        hem.undo();
        Check.due("input", Texts.inputLength(hem), 5);
        Check.due("error code", hem.errorCode(), 1);
        Check.due("error offset", hem.errorOffset(), 4);
        Check.due("output", Texts.outputOf(hem), picture);
        Check.due("saved state", hem.restoreState(), 3);
    }

    private static void refusedCalls() {
        DateHem hem = new DateHem();
        hem.pass(1);
        Check.throwsState("hem", () -> hem.moveHem(4, 180));
        Check.throwsArgument("pass", () -> hem.pass(0));
        Check.throwsIndex("rip", () -> hem.rip(2));
        Check.throwsState("town", () -> hem.addTown(0, 0));
        Check.throwsState("label", () -> hem.addLabel(0, 0));
        Check.throwsState("sew", () -> hem.sew(0, 99));
        Check.throwsIndex("step", () -> hem.step(0, 0));
        Check.throwsIndex("walk", () -> hem.walk(0, 0, 0));
        hem.printBand(0);
        hem.saveState();
        hem.hoursUntilTear(0);
        Check.due("undo()", hem.undo(), 0);
        Check.due("clock()", hem.clock(), 0);
    }

    private static void saving() {
        DateHem hem = subject();
        Check.due("saveState()", hem.saveState(), 5);
        String first = Texts.stateOf(hem);
        hem.pass(2);
        hem.undo();
        hem.pass(3);
        hem.restoreState();
        Check.due("as saved", Texts.stateOf(hem), first);
        hem.pass(4);
        hem.rip(0);
        String second = Texts.stateOf(hem);
        Check.due("saveState() again", hem.saveState(), 9);
        Check.due("it leaves undo()", hem.undo(), 1);
        hem.restoreState();
        Check.due("as saved again", Texts.stateOf(hem), second);
    }

    private static void restoring() {
        DateHem hem = subject();
        Check.throwsState("nothing saved", () -> hem.restoreState());
        hem.saveState();
        String saved = Texts.stateOf(hem);
        Texts.type(hem, "globe 30 30 30 30 30 30 30 30 30 30 30 30; pass 9;").readText();
        hem.printBand(1);
        String picture = Texts.outputOf(hem);
        hem.pass(1);
        Texts.type(hem, "words");
        Check.due("restoreState()", hem.restoreState(), 5);
        Check.due("state", Texts.stateOf(hem), saved);
        Check.throwsState("undo()", () -> hem.undo());
        Check.due("output", Texts.outputOf(hem), picture);
        Check.due("input", Texts.inputLength(hem), 5);
        hem.pass(7);
        Check.due("it stays saved", hem.restoreState(), 5);
        Check.due("state again", Texts.stateOf(hem), saved);
        hem.pass(1);
        Check.due("undo() afterwards", hem.undo(), 0);
    }
}
