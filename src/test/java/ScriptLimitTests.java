/** The limits that section 7 names: the commands, the error codes and what ends an execution. */
final class ScriptLimitTests {
    private static final String SPOTS = "person a 4 100;town b 4 100;";

    private ScriptLimitTests() {
    }

    static void run() {
        tokens();
        grammar();
        codeTwo();
        numbers();
        codeThree();
        codeFive();
        smallest();
        parameters();
        refusals();
        forty();
        endsEverything();
    }

    private static void error(String text, String want) {
        Check.due("\"" + text + "\"", Texts.scriptError(text), want);
    }

    /** How many commands are executed. */
    private static int run(DateHem hem, String text) {
        return Texts.type(hem, text).runScript();
    }

    private static void tokens() {
        Check.part("section 7, tokens and offsets are as for descriptions");
        for (char sign = 0; sign < 256; sign++) {
            boolean blank = sign == 32 || sign == 10;
            boolean digit = sign >= '0' && sign <= '9';
            error("pass 1" + sign + " ;", blank || digit ? "fine" : sign == ';' ? "1 at 8" : "1 at 6");
            error(sign + "rip 1;", blank ? "fine" : "1 at 0");
            error("rip 1;" + sign, blank ? "fine" : "1 at 6");
        }
        error("repeat2(rip1;step0 1;);\n", "fine");
        error("\n repeat\n2 ( \nrip 1 ; ) ;", "fine");
        error("passs 1;", "1 at 0");
        error("repeated 1 ();", "1 at 0");
        error("repeatedl 1 ();", "1 at 0");
        error("pass 00001;", "1 at 5");
        error("pass 0001;", "fine");
        String late = " ".repeat(594) + "rip 0;";
        error(late, "fine");
        error(late.replace(';', ' '), "1 at 600");
        Check.part("section 7, a word or number that is too long where a sign is due, after others");
        error("rip 9;rip 9 abcdefghi", "1 at 12");
        error("rip 9;rip 9 00001", "1 at 12");
        error("rip 9;rip 9 00001 rip 9;", "1 at 12");
        error("repeat 1 (repeat 1 00001 rip 9;););", "1 at 19");
        error("repeat 1 (repeat 1 abcdefghi rip 9;););", "1 at 19");
        error("repeat 1 (repeat 1 ();) abcdefghi", "1 at 24");
        Check.part("section 7, code 1 at the length of a text that ends too early");
        String[] parts = {"repeat", " 2", "(", "repeat", " 3", " (", "hem", " 1", " 2", ";", ")", " ;",
            "walk", " 1", " 2", " 3", ";", ")"};
        String text = "";
        for (String part : parts) {
            error(text, text.isEmpty() ? "fine" : "1 at " + text.length());
            text += part;
        }
        error(text + " ", "1 at " + (text.length() + 1));
        error(text + " ;", "fine");
    }

    private static void grammar() {
        Check.part("section 7, how many numbers a command has");
        String[] commands = {"hem 1 2", "sew 1 2", "step 1 2", "walk 1 2 3", "rip 1", "pass 1"};
        for (String command : commands) {
            int end = command.length();
            error(command + ";", "fine");
            error(command + " 4;", "1 at " + (end + 1));
            error(command.substring(0, end - 1) + ";", "1 at " + (end - 1));
            error(command.substring(0, end - 1) + "x;", "1 at " + (end - 1));
            error(command + ")", "1 at " + end);
        }
        error("repeat 1 2 ();", "1 at 9");
        error("repeat x ();", "1 at 7");
        error("repeat 1 );", "1 at 9");
        error("repeat 1 ()", "1 at 11");
        error("repeat 1 ())", "1 at 11");
        error("(rip 1;);", "1 at 0");
        error("rip 1;)", "1 at 6");
        for (String word : new String[] {"town", "person", "label", "thread", "globe", "east", "undo"}) {
            error(word + " 1;", "1 at 0");
        }
        Check.part("section 7, a script may be empty");
        Check.due("a text", run(new DateHem(), ""), 0);
        Check.due("a repeat", run(new DateHem(), "repeat 20 ();repeat 1 (repeat 20 (););"), 0);
    }

    private static void codeTwo() {
        Check.part("section 7, code 2, repeat is 1 to 20");
        error("repeat 0 (rip 1;);", "2 at 7");
        error("repeat 1 (rip 1;);", "fine");
        error("repeat 20 (rip 1;);", "fine");
        error("repeat 21 (rip 1;);", "2 at 7");
        error("repeat 9999 (rip 1;);", "2 at 7");
        error("repeat 1 (repeat 0 ();", "2 at 17");
        error("repeat 1 (repeat 21 ();", "2 at 17");
        Check.due("once", run(new DateHem(), "repeat 1 (pass 1;);"), 1);
        Check.due("20 times", run(new DateHem(), "repeat 20 (pass 1;);"), 20);
    }

    private static void numbers() {
        Check.part("section 7, other numbers may be 0 to 9999");
        for (String number : new String[] {"0", "9999"}) {
            error("hem " + number + " " + number + ";", "fine");
            error("sew " + number + " " + number + ";", "fine");
            error("step " + number + " " + number + ";", "fine");
            error("walk " + number + " " + number + " " + number + ";", "fine");
            error("rip " + number + ";", "fine");
            error("pass " + number + ";", "fine");
        }
        error("hem 10000 1;", "1 at 4");
        error("hem 1 10000;", "1 at 6");
        error("walk 1 1 10000;", "1 at 9");
        error("rip 10000;", "1 at 4");
    }

    private static void codeThree() {
        Check.part("section 7, code 3, repeat inside two other repeats");
        error("repeat 1 (repeat 1 (rip 1;););", "fine");
        error("repeat 1 (repeat 1 (repeat 1 (););", "3 at 20");
        error("repeat 1 (repeat 1 (rip 1;repeat", "3 at 26");
        error("repeat 1 (repeat 1 (rip 1;);repeat 1 (rip 1;););repeat 1 ();", "fine");
        error("repeat 1 (repeat 1 (rip 1;);repeat 1 (rip 1;repeat", "3 at 44");
    }

    private static void codeFive() {
        Check.part("section 7, code 5, the 31st command");
        String[] commands = {"hem 9 1;", "sew 9 1;", "step 9 1;", "walk 9 1 1;", "rip 9;", "pass 0;",
            "repeat 2 ();"};
        String thirty = "pass 0;".repeat(30);
        for (String command : commands) {
            String most = command.repeat(30);
            error(most, "fine");
            error(most + command, "5 at " + most.length());
            error(thirty + command, "5 at 210");
        }
        error(thirty + "pass", "5 at 210");
        error(thirty + "pass x", "5 at 210");
        String inside = "repeat 2 (" + "rip 9;".repeat(14) + ");";
        error(inside.repeat(2), "fine");
        error(inside.repeat(2) + "rip 9;", "5 at 192");
        error("repeat 2 (" + "rip 9;".repeat(29) + ");", "fine");
        error("repeat 2 (" + "rip 9;".repeat(30) + ");", "5 at 184");
        error("repeat 20 (repeat 20 (" + "rip 9;".repeat(28) + "););", "fine");
        error("repeat 20 (repeat 20 (" + "rip 9;".repeat(29) + "););", "5 at 190");
    }

    private static void smallest() {
        Check.part("section 7, the smallest of several codes at one token");
        String full = "repeat 1 (repeat 1 (" + "rip 9;".repeat(28);
        error(full + "repeat", "3 at 188");
        error(full + "rip", "5 at 188");
        error(full + "rop", "1 at 188");
        error(full + ";", "1 at 188");
        error(full + "repeatedly", "1 at 188");
        error("repeat 1 (repeat 1 (rip repeat", "1 at 24");
        error("repeat 1 (repeat 1 (rip 1 repeat", "1 at 26");
        error("rip 9;".repeat(29) + "rip 9 rip", "1 at 180");
        error("rip 9;".repeat(29) + "rip rip", "1 at 178");
        error("repeat repeat", "1 at 7");
        Check.part("section 7, parsing stops at the first erroneous token");
        error("repeat 0 (rip x;);", "2 at 7");
        error("rip 1 1; repeat 0 ();", "1 at 6");
    }

    private static void parameters() {
        Check.part("section 7, the numbers in the order of their parameters");
        DateHem hem = Texts.halves(SPOTS + "person c 4 100;");
        Check.due("sew", run(hem, "sew 0 2;"), 1);
        Check.due("only the seam", Texts.stateOf(hem), Texts.stateOf(Texts.halves(
                SPOTS + "person c 4 100;sew 0 2;")));
        Check.due("sew of the other", run(hem, "sew 1 1;"), 1);
        Check.due("no step by it", hem.meridianOf(0) + hem.meridianOf(2), 200);
        Check.due("rip", run(hem, "rip 1;"), 1);
        Check.due("no hour by it", hem.clock(), 0);
        Check.due("its stitches", hem.stitchesOf(1), 0);
        Check.due("hem", run(hem, "hem 2 190;"), 1);
        Check.due("its band", hem.hemAt(2), 190);
        Check.due("step", run(hem, "step 2 1;step 0 0;"), 2);
        Check.due("its direction", hem.meridianOf(2), 99);
        Check.due("the other's", hem.meridianOf(0), 101);
        Check.due("walk", run(hem, "walk 2 0 1;walk 0 1 359;"), 2);
        Check.due("degrees", hem.degreesLeft(2) * 1000 + hem.degreesLeft(0), 1359);
        Check.due("pass", run(hem, "pass 2;"), 1);
        Check.due("clock", hem.clock(), 2);
        Check.due("where they are", hem.meridianOf(2) * 1000 + hem.meridianOf(0), 100081);
    }

    /** A command that is refused is not counted, those behind it are not executed. */
    private static void refusals() {
        Check.part("section 7, execution ends at the first command whose method throws");
        String[] wrong = {"hem 9 190", "hem 4 360", "hem 4 0", "hem 4 180", "hem 4 241", "sew 2 1",
            "sew 0 0", "sew 0 100", "sew 0 80", "step 2 0", "step 0 2", "step 1 0", "walk 2 0 0",
            "walk 0 2 0", "walk 0 0 360", "walk 1 0 0", "rip 2", "rip 1; rip 1", "pass 0", "pass 241"};
        for (String command : wrong) {
            int before = command.startsWith("rip 1") ? 3 : 2;
            DateHem hem = Texts.halves(SPOTS);
            Check.due(command, run(hem, "pass 1;step 0 0;" + command + ";pass 9;"), before);
            Check.due("clock of " + command, hem.clock(), 1);
            Check.due("step before " + command, hem.meridianOf(0), 101);
            Check.due("no error of " + command, hem.errorCode() * 10 + hem.errorOffset(), -1);
            DateHem inside = Texts.halves(SPOTS);
            Check.due("in repeats: " + command, run(inside,
                    "repeat 3 (repeat 3 (pass 1;" + command + ";pass 9;););pass 9;"), before - 1);
            Check.due("clock in repeats: " + command, inside.clock(), 1);
        }
        DateHem first = new DateHem();
        Check.due("the first of all", run(first, "pass 0;pass 1;"), 0);
        Check.due("its clock", first.clock(), 0);
        DateHem poor = Texts.halves("thread 3;");
        Check.due("the 4th time", run(poor, "repeat 9 (sew 0 1;);pass 1;"), 3);
        Check.due("its thread", poor.thread() + poor.clock(), 0);
    }

    private static void forty() {
        Check.part("section 7, execution ends when 40 commands have been executed");
        int[][] due = {{1, 20, 20}, {2, 20, 40}, {3, 20, 40}, {20, 20, 40}, {13, 3, 39}, {20, 2, 40},
            {20, 3, 40}};
        for (int[] row : due) {
            DateHem hem = new DateHem();
            String text = "repeat " + row[0] + " (repeat " + row[1] + " (pass 1;););";
            Check.due(text, run(hem, text), row[2]);
            Check.due("clock of " + text, hem.clock(), row[2]);
            DateHem more = new DateHem();
            Check.due("with one behind it", run(more, text + "pass 9;"), Math.min(40, row[2] + 1));
            Check.due("clock with one behind it", more.clock(), row[2] + (row[2] < 40 ? 9 : 0));
        }
        DateHem within = new DateHem();
        Check.due("within a repeat", run(within, "repeat 20 (pass 1;pass 2;pass 3;);"), 40);
        Check.due("its clock", within.clock(), 13 * 6 + 1);
        DateHem outer = new DateHem();
        Check.due("behind an inner one", run(outer, "repeat 20 (repeat 3 (pass 1;);pass 5;);"), 40);
        Check.due("its clock", outer.clock(), 10 * 8);
        DateHem before = new DateHem();
        Check.due("before an inner one", run(before, "pass 7;repeat 20 (pass 5;repeat 3 (pass 1;););"),
                40);
        Check.due("its clock", before.clock(), 7 + 9 * 8 + 5 + 2);
    }

    private static void endsEverything() {
        Check.part("section 7, a repeat itself is not counted as executed");
        Check.due("28 in two", run(new DateHem(), "repeat 1 (repeat 1 (" + "pass 1;".repeat(28) + "););"),
                28);
        Check.due("30 alone", run(new DateHem(), "pass 1;".repeat(30)), 30);
        Check.due("only repeats", run(new DateHem(), "repeat 2 ();".repeat(30)), 0);
        Check.part("section 7, an error executes nothing");
        DateHem hem = new DateHem();
        Check.throwsArgument("at the end", () -> run(hem, "pass 1;rip 0;pass"));
        Check.due("state", Texts.stateOf(hem), Texts.stateOf(new DateHem()));
        Check.throwsState("nothing to undo", () -> hem.undo());
    }
}
