/** Promise 5 with section 7: scripts. */
final class ScriptTests {
    private ScriptTests() {
    }

    static void run() {
        Check.part("promise 5, effects");
        effects();
        stopsAtRefusal();
        stopsAtForty();
        undoable();
        oneAfterAnother();
        Check.part("promise 5, errors");
        errors();
        depthAndCount();
    }

    private static int runIn(DateHem hem, String text) {
        return Texts.type(hem, text).runScript();
    }

    private static void effects() {
        DateHem hem = Texts.halves("person ann 4 20;");
        Check.due("all commands", runIn(hem,
                "hem 4 200; sew 1 5; step 0 1; walk 0 0 25; rip 0; pass 2;"), 6);
        Check.due("state", Texts.stateOf(hem), "clock 2 thread 501 gore 0+180*0 gore 180+180*25"
                + " hem 180 hem 180 hem 180 hem 180 hem 200 hem 180 hem 180 hem 180 hem 180"
                + " spot anntrue 4 39 0 5 0 44");
        Check.due("empty", runIn(hem, ""), 0);
        Check.due("blank", runIn(hem, " \n"), 0);
        Check.due("repeat", runIn(hem, "repeat 3 (step 0 0; step 0 0; step 0 1;);"), 9);
        Check.due("meridian", hem.meridianOf(0), 42);
        Check.due("nested", runIn(hem, "repeat 2(pass 1;repeat 3(pass 2;);pass 3;);pass 4;"), 11);
        Check.due("clock", hem.clock(), 26);
        Check.due("two in one", runIn(hem, "repeat 2 (repeat 2 (pass 1;); repeat 1 (pass 2;););"), 6);
        Check.due("clock", hem.clock(), 34);
        Check.due("empty repeats", runIn(hem, "repeat 20 (repeat 20 ();); repeat 1 ();"), 0);
        Check.due("order in a repeat", runIn(hem, "repeat 2 (walk 0 0 7; pass 1; walk 0 1 5; pass 1;);"), 8);
        Check.due("meridian", hem.meridianOf(0), 51);
    }

    private static void stopsAtRefusal() {
        DateHem hem = Texts.halves("person a 0 0; town b 0 0;");
        Check.due("hem refused", runIn(hem, "pass 1; hem 4 180; pass 1;"), 1);
        Check.due("clock", hem.clock(), 1);
        Check.due("no error", hem.errorCode(), 0);
        Check.due("band", runIn(hem, "hem 9 1;"), 0);
        Check.due("meridian", runIn(hem, "hem 0 360;"), 0);
        Check.due("seam", runIn(hem, "sew 2 1;"), 0);
        Check.due("stitches", runIn(hem, "sew 1 0;"), 0);
        Check.due("too many", runIn(hem, "sew 1 79; sew 1 1;"), 1);
        Check.due("no such seam", runIn(hem, "rip 9999;"), 0);
        Check.due("torn", runIn(hem, "rip 0; rip 0; rip 1;"), 1);
        Check.due("no such spot", runIn(hem, "step 2 0;"), 0);
        Check.due("direction", runIn(hem, "step 0 2;"), 0);
        Check.due("town", runIn(hem, "step 1 0;"), 0);
        Check.due("torn seam", runIn(hem, "step 0 0; step 0 1; step 0 1; step 0 0;"), 2);
        Check.due("walk of a town", runIn(hem, "walk 1 0 1;"), 0);
        Check.due("walk of none", runIn(hem, "walk 2 0 1;"), 0);
        Check.due("walk anywhere", runIn(hem, "walk 0 2 1;"), 0);
        Check.due("walk too far", runIn(hem, "walk 0 1 360;"), 0);
        Check.due("pass 0", runIn(hem, "pass 0;"), 0);
        Check.due("pass 241", runIn(hem, "pass 241;"), 0);
        Check.due("in a repeat", runIn(hem, "repeat 9 (pass 1; sew 0 45;); pass 1;"), 5);
        Check.due("clock", hem.clock(), 4);
    }

    private static void stopsAtForty() {
        DateHem hem = new DateHem();
        Check.due("20 * 3", runIn(hem, "repeat 20 (pass 1; pass 2; pass 4;);"), 40);
        Check.due("clock", hem.clock(), 92);
        Check.due("2 * 20", runIn(hem, "repeat 2 (repeat 20 (pass 1;);); pass 9;"), 40);
        Check.due("clock", hem.clock(), 132);
        Check.due("39 and more", runIn(hem,
                "repeat 13 (pass 1; pass 1; pass 1;); pass 10; pass 100;"), 40);
        Check.due("clock", hem.clock(), 181);
        Check.due("20 * 20", runIn(hem, "pass 2; repeat 20 (repeat 20 (pass 1;););"), 40);
        Check.due("clock", hem.clock(), 222);
        Check.due("refusal beyond", runIn(hem, "repeat 20 (pass 1; pass 1;); pass 0;"), 40);
    }

    private static void undoable() {
        DateHem hem = new DateHem();
        runIn(hem, "pass 5; pass 5; rip 0;");
        Check.due("undo()", hem.undo(), 0);
        Check.due("state", Texts.stateOf(hem), Texts.stateOf(new DateHem()));
        hem.pass(1);
        runIn(hem, "");
        runIn(hem, "pass 0;");
        Check.due("undo() of nothing executed", hem.undo(), 2);
        Check.due("undo() of nothing written", hem.undo(), 1);
        Check.throwsArgument("an error", () -> runIn(hem, "pass 1; pass"));
        Check.due("clock after an error", hem.clock(), 1);
        Check.due("undo() after an error", hem.undo(), 0);
        Check.due("clock", hem.clock(), 0);
    }

    private static void oneAfterAnother() {
        DateHem hem = new DateHem();
        for (int n = 0; n < 3; n++) {
            Check.due("20 commands", runIn(hem, "pass 1;".repeat(20)), 20);
        }
        Check.throwsArgument("left open", () -> runIn(hem, "repeat 2 (repeat 2 (pass 1;"));
        Check.due("after one left open", runIn(hem, "repeat 2 (pass 1;);"), 2);
        Check.throwsArgument("closed without being open", () -> runIn(hem, "pass 1;)"));
        Check.due("clock()", hem.clock(), 62);
    }

    private static void error(String text, String want) {
        Check.due("\"" + text + "\"", Texts.scriptError(text), want);
    }

    private static void errors() {
        error(";", "1 at 0");
        error("pass", "1 at 4");
        error("pass 1", "1 at 6");
        error("pass 1 1;", "1 at 7");
        error("pass x;", "1 at 5");
        error("pass 12345;", "1 at 5");
        error("pass 9999;", "fine");
        error("step 0;", "1 at 6");
        error("step 0 0 0;", "1 at 9");
        error("walk 0 0;", "1 at 8");
        error("walk 0 0 0 0;", "1 at 11");
        error("hem 1;", "1 at 5");
        error("sew 1;", "1 at 5");
        error("rip 1 1;", "1 at 6");
        error("thread 5;", "1 at 0");
        error("town a 0 0;", "1 at 0");
        error("abcdefghi 1;", "1 at 0");
        error("7;", "1 at 0");
        error(")", "1 at 0");
        error("pass 1;);", "1 at 7");
        error("repeat (pass 1;);", "1 at 7");
        error("repeat 1 pass 1;", "1 at 9");
        error("repeat 1 (pass 1;)", "1 at 18");
        error("repeat 1 (pass 1);", "1 at 16");
        error("repeat 1 (pass 1;", "1 at 17");
        error("repeat 1 (pass 1; ;);", "1 at 18");
        error("repeat 1 (;);", "1 at 10");
        error("repeat 1 ());", "1 at 11");
        error("repeat 0 ();", "2 at 7");
        error("repeat 1 ();", "fine");
        error("repeat 20 ();", "fine");
        error("repeat 21 ();", "2 at 7");
        error("repeat 00001 ();", "1 at 7");
        error("repeat 1 (\n)\n;\n", "fine");
        error("pass 1;\u00e9", "1 at 7");
        error("(", "1 at 0");
    }

    private static void depthAndCount() {
        error("repeat 2 (repeat 2 (pass 1;););", "fine");
        error("repeat 2 (repeat 2 (repeat 2 ();););", "3 at 20");
        error("repeat 2 (repeat 2 (); repeat 2 (););", "fine");
        error("repeat 2 (repeat 2 ();); repeat 2 (repeat 2 (repeat", "3 at 45");
        String thirty = "rip 9;".repeat(30);
        error(thirty, "fine");
        error(thirty + "rip 9;", "5 at 180");
        error(thirty + "rip", "5 at 180");
        error(thirty + "ripp 9;", "1 at 180");
        error(thirty + "repeat 1 ();", "5 at 180");
        error(thirty + " ;", "1 at 181");
        String repeats = "repeat 1 ();".repeat(28);
        error(repeats + "repeat 1 (rip 1;);", "fine");
        error(repeats + "repeat 1 (rip 1; rip 2;);", "5 at 353");
        error("repeat 1 (repeat 1 (" + "rip 9;".repeat(28) + "););", "fine");
        error("repeat 1 (repeat 1 (" + "rip 9;".repeat(28) + "repeat", "3 at 188");
        error("repeat 1 (repeat 1 (" + "rip 9;".repeat(28) + "rip", "5 at 188");
        error("repeat 20 (" + "rip 9;".repeat(29) + ");", "fine");
    }
}
