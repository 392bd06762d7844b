import java.util.LinkedHashMap;
import java.util.Map;

/** The limits that section 8 names, and promises 54, 57 and 58. */
final class UndoLimitTests {
    private interface Change {
        void on(DateHem hem);
    }

    private UndoLimitTests() {
    }

    static void run() {
        everyUndoable();
        nothingElse();
        sixRemembered();
        theSeventh();
        scripts();
        leftAlone();
        saved();
        restored();
        described();
    }

    private static DateHem subject() {
        return Texts.globe("globe 100 260; person p 4 99; town t 3 5; label a 4 98; walk p east 44;"
                + " pass 5;");
    }

    private static Map<String, Change> changes() {
        Map<String, Change> all = new LinkedHashMap<>();
        all.put("addTown", hem -> Texts.type(hem, "x").addTown(4, 4));
        all.put("addTraveller", hem -> Texts.type(hem, "x").addTraveller(4, 4));
        all.put("addLabel", hem -> Texts.type(hem, "x").addLabel(4, 4));
        all.put("moveHem", hem -> hem.moveHem(4, 120));
        all.put("sew", hem -> hem.sew(1, 3));
        all.put("rip", hem -> hem.rip(1));
        all.put("step", hem -> hem.step(0, 0));
        all.put("walk", hem -> hem.walk(0, 1, 3));
        all.put("pass", hem -> hem.pass(240));
        all.put("runScript", hem -> Texts.type(hem, "pass 1; rip 0;").runScript());
        return all;
    }

    private static void everyUndoable() {
        Check.part("section 8, each call described as undoable can be undone, the latest first");
        for (Map.Entry<String, Change> change : changes().entrySet()) {
            DateHem hem = subject();
            String first = Texts.stateOf(hem);
            hem.sew(0, 5);
            String before = Texts.stateOf(hem);
            change.getValue().on(hem);
            Check.due(change.getKey() + " changes", Texts.stateOf(hem).equals(before), false);
            Check.due("undo() of " + change.getKey(), hem.undo(), 1);
            Check.due("state before " + change.getKey(), Texts.stateOf(hem), before);
            Check.due("undo() of what was before", hem.undo(), 0);
            Check.due("state before all", Texts.stateOf(hem), first);
            Check.throwsState("no more undo()", () -> hem.undo());
        }
    }

    private static void nothingElse() {
        Check.part("section 8, other calls are not remembered");
        DateHem hem = subject();
        hem.sew(0, 5);
        hem.feed(0x61626364, 0, 0, 0, 0);
        hem.truncate(3);
        hem.findSpot();
        hem.labelObstacle(0, 0);
        hem.hemObstacle(0, 200);
        hem.hoursUntilTear(0);
        hem.meridianAfter(0, 300);
        hem.violations();
        hem.printBand(3);
        hem.saveState();
        Check.throwsArgument("a wrong script", () -> hem.runScript());
        Check.throwsArgument("a wrong text", () -> hem.readText());
        Check.due("undo()", hem.undo(), 0);
        Check.due("state", Texts.stateOf(hem), Texts.stateOf(subject()));
    }

    private static void sixRemembered() {
        Check.part("section 8, at most 6 calls are remembered");
        for (int calls = 0; calls <= 8; calls++) {
            DateHem hem = new DateHem();
            for (int n = 0; n < calls; n++) {
                hem.pass(1);
            }
            int most = Math.min(calls, 6);
            for (int left = most - 1; left >= 0; left--) {
                Check.due("undo() after " + calls, hem.undo(), left);
                Check.due("clock() after " + calls, hem.clock(), calls - most + left);
            }
            Check.throwsState("one more undo() after " + calls, () -> hem.undo());
            Check.due("clock() then", hem.clock(), calls - most);
        }
    }

    private static void theSeventh() {
        Check.part("section 8, a seventh call makes the oldest be forgotten");
        for (Map.Entry<String, Change> change : changes().entrySet()) {
            DateHem hem = subject();
            for (int n = 0; n < 6; n++) {
                hem.sew(0, 1);
            }
            change.getValue().on(hem);
            for (int left = 5; left >= 0; left--) {
                Check.due("undo() after " + change.getKey(), hem.undo(), left);
            }
            Check.due("the first is not undone", hem.stitchesOf(0), 21);
            Check.throwsState("a 7th undo() after " + change.getKey(), () -> hem.undo());
        }
        Check.part("section 8, what was undone makes room");
        DateHem hem = new DateHem();
        for (int n = 0; n < 6; n++) {
            hem.pass(1);
        }
        hem.undo();
        hem.undo();
        hem.pass(10);
        hem.pass(20);
        hem.pass(30);
        Check.due("undo()", hem.undo(), 5);
        Check.due("clock()", hem.clock(), 34);
        for (int left = 4; left >= 0; left--) {
            Check.due("undo()", hem.undo(), left);
        }
        Check.due("clock()", hem.clock(), 1);
        Check.throwsState("the first is forgotten", () -> hem.undo());
    }

    private static void scripts() {
        Check.part("section 8, runScript() is one undoable call, however many it executed");
        DateHem hem = new DateHem();
        hem.pass(1);
        Check.due("40 commands", Texts.type(hem, "repeat 20 (pass 1;pass 1;);").runScript(), 40);
        Check.due("undo() of them", hem.undo(), 1);
        Check.due("clock()", hem.clock(), 1);
        Check.due("none", Texts.type(hem, "").runScript(), 0);
        Check.due("undo() of none", hem.undo(), 1);
        Check.due("clock()", hem.clock(), 1);
        for (int n = 0; n < 6; n++) {
            Check.due("one refused", Texts.type(hem, "pass 241;").runScript(), 0);
        }
        for (int left = 5; left >= 0; left--) {
            Check.due("undo() of those", hem.undo(), left);
        }
        Check.due("clock()", hem.clock(), 1);
    }

    private static void leftAlone() {
        Check.part("section 8, undo() leaves the input buffer, the error, the output, the saved state");
        DateHem hem = subject();
        hem.saveState();
        hem.pass(1);
        hem.saveState();
        hem.printBand(0);
        Texts.type(hem, "zed").addTown(4, 4);
        hem.printBand(4);
        String picture = Texts.outputOf(hem);
        Check.throwsArgument("an error", () -> Texts.type(hem, "pass 1").runScript());
        Texts.type(hem, "t");
        Check.due("undo()", hem.undo(), 1);
        Check.due("the input buffer", hem.findSpot(), 1);
        Check.due("the error", hem.errorCode() * 100 + hem.errorOffset(), 106);
        Check.due("the output", Texts.outputOf(hem), picture);
        Check.due("undo()", hem.undo(), 0);
        Check.due("the input buffer", hem.findSpot(), 1);
        Check.due("the saved state", hem.restoreState(), 6);
        DateHem emptied = new DateHem();
        Texts.type(emptied, "zed").addLabel(4, 4);
        emptied.undo();
        Check.due("an emptied input buffer", Texts.inputLength(emptied), 0);
    }

    private static void saved() {
        Check.part("promise 57, replacing an earlier saved state");
        DateHem hem = new DateHem();
        Check.due("the clock at first", hem.saveState(), 0);
        hem.pass(7);
        Check.due("the clock", hem.saveState(), 7);
        hem.pass(1);
        Check.due("undo() after it", hem.undo(), 1);
        hem.undo();
        Check.due("the clock before it", hem.clock(), 0);
        Check.due("the later one", hem.restoreState(), 7);
        Check.due("stitches of it", hem.stitchesOf(0), 14);
        Check.part("promise 57, what is saved does not change afterwards");
        for (Map.Entry<String, Change> change : changes().entrySet()) {
            DateHem other = subject();
            other.saveState();
            change.getValue().on(other);
            Check.due("restoreState() after " + change.getKey(), other.restoreState(), 5);
            Check.due("state", Texts.stateOf(other), Texts.stateOf(subject()));
        }
    }

    private static void restored() {
        Check.part("promise 58, the saved state stays saved");
        DateHem hem = subject();
        hem.saveState();
        for (Map.Entry<String, Change> change : changes().entrySet()) {
            change.getValue().on(hem);
            Check.due("restoreState() after " + change.getKey(), hem.restoreState(), 5);
            Check.due("state after " + change.getKey(), Texts.stateOf(hem), Texts.stateOf(subject()));
            Check.throwsState("undo() after " + change.getKey(), () -> hem.undo());
        }
        hem.restoreState();
        hem.pass(1);
        Check.due("undo() of a later call", hem.undo(), 0);
        Check.due("state", Texts.stateOf(hem), Texts.stateOf(subject()));
        Check.part("promise 58, the input buffer, the error and the output stay");
        hem.printBand(4);
        Check.throwsArgument("an error", () -> Texts.type(hem, "pass 1").runScript());
        Texts.type(hem, "t");
        Check.due("restoreState()", hem.restoreState(), 5);
        Check.due("the input buffer", hem.findSpot(), 1);
        Check.due("the error", hem.errorCode() * 100 + hem.errorOffset(), 106);
        Check.due("the output", Texts.outputOf(hem).length(), 37);
    }

    private static void described() {
        Check.part("promise 4, afterwards nothing can be undone");
        DateHem hem = subject();
        for (int n = 0; n < 7; n++) {
            hem.sew(0, 1);
        }
        Texts.type(hem, "globe 180 180;").readText();
        Check.throwsState("undo()", () -> hem.undo());
        hem.pass(1);
        Check.due("undo() of a later call", hem.undo(), 0);
        Check.due("state", Texts.stateOf(hem), Texts.stateOf(new DateHem()));
        Check.part("promise 4, an error leaves what can be undone");
        hem.pass(1);
        hem.pass(2);
        Check.throwsArgument("an error", () -> Texts.type(hem, "globe 180 180; pass 9; x").readText());
        Check.due("undo()", hem.undo(), 1);
        Check.due("clock()", hem.clock(), 1);
    }
}
