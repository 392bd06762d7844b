/** Each call that the state refuses, with its exception, and that all stays as it was. */
final class RefusalTests {
    private interface Call {
        Object on(DateHem hem);
    }

    private static final String GLOBE = "globe 100 50 210; person ann 4 99; town oslo 3 5;"
            + " person bob 4 100; label abc 4 10; label d 4 200; rip 1; sew 0 70;"
            + " thread 8;";

    private RefusalTests() {
    }

    static void run() {
        spots(true);
        spots(false);
        labels();
        hems();
        seams();
        travellers();
        inputs();
        texts();
        nothingThere();
        argumentsFirst();
    }

    private static DateHem subject(String globe, String input) {
        DateHem hem = Texts.globe(globe);
        hem.saveState();
        hem.printBand(4);
        Check.throwsArgument("an error", () -> Texts.type(hem, "sew 1").runScript());
        hem.walk(0, 1, 44);
        hem.walk(2, 1, 33);
        return Texts.type(hem, input);
    }

    private static void refused(String what, String input, Call call) {
        refused(what, GLOBE, input, call);
    }

    private static void refused(String what, String globe, String input, Call call) {
        DateHem hem = subject(globe, input);
        Check.throwsState(what, () -> call.on(hem));
        Check.due("all that is shown after " + what, Tale.of(hem), Tale.of(subject(globe, input)));
    }

    private static void spots(boolean travels) {
        Check.part("promise " + (travels ? 46 : 45) + ", IllegalStateException");
        Call add = travels ? hem -> hem.addTraveller(8, 359) : hem -> hem.addTown(8, 359);
        refused("an empty name", "", add);
        refused("a name of 9 letters", "abcdefghi", add);
        refused("a capital", "aBc", add);
        refused("a digit", "a1", add);
        refused("a blank before", " a", add);
        refused("a blank behind", "a ", add);
        refused("a line feed", "a\n", add);
        refused("the byte before a", "`", add);
        refused("the byte behind z", "{", add);
        refused("a zero byte", "\0", add);
        refused("a byte over 127", "a\u00e1", add);
        refused("a traveller's name", "ann", add);
        refused("a town's name", "oslo", add);
        StringBuilder ten = new StringBuilder(GLOBE);
        for (char letter = 'p'; letter < 'w'; letter++) {
            ten.append(letter % 2 == 0 ? "town " : "person ").append(letter).append(" 0 0;");
        }
        refused("an 11th spot", ten.toString(), "x", add);
        refused("an 11th spot of a name that is there", ten.toString(), "ann", add);
    }

    private static void labels() {
        Check.part("promise 47, IllegalStateException");
        refused("labelObstacle() 1, no letter", "", hem -> hem.addLabel(4, 50));
        refused("labelObstacle() 1, 9 letters", "abcdefghi", hem -> hem.addLabel(4, 50));
        refused("labelObstacle() 1, no letters", "a5", hem -> hem.addLabel(4, 50));
        refused("labelObstacle() 2", "a", hem -> hem.addLabel(4, 358));
        refused("labelObstacle() 3", "a", hem -> hem.addLabel(4, 18));
        refused("labelObstacle() 4", "a", hem -> hem.addLabel(4, 178));
        refused("labelObstacle() 5", "a", hem -> hem.addLabel(4, 98));
        String eight = GLOBE + "label f 0 0; label g 1 0; label h 2 0; label i 3 0; label j 5 0;"
                + " label l 7 0;";
        refused("a 9th label", eight, "a", hem -> hem.addLabel(8, 0));
        String torn = eight.replace("rip 1;", "label k 8 95; rip 1;").replace("label l 7 0;", "");
        refused("a 9th label, one of 8 torn", torn, "a", hem -> hem.addLabel(8, 0));
    }

    private static void hems() {
        Check.part("promise 48, IllegalStateException");
        refused("hemObstacle() 1, there", "ann", hem -> hem.moveHem(4, 180));
        refused("hemObstacle() 1, the meridian 0", "ann", hem -> hem.moveHem(4, 0));
        refused("hemObstacle() 2, east", "ann", hem -> hem.moveHem(4, 241));
        refused("hemObstacle() 2, west", "ann", hem -> hem.moveHem(4, 119));
        refused("hemObstacle() 3", "ann", hem -> hem.moveHem(4, 202));
        refused("hemObstacle() 4, 41 east for 8", "ann", hem -> hem.moveHem(4, 221));
        refused("hemObstacle() 4, 41 west for 8", "ann", hem -> hem.moveHem(4, 139));
    }

    private static void seams() {
        Check.part("promise 49, IllegalStateException");
        String rich = GLOBE.replace("thread 8;", "");
        refused("100 stitches", GLOBE, "ann", hem -> hem.sew(0, 10));
        refused("100 stitches with thread", rich, "ann", hem -> hem.sew(0, 10));
        refused("many more", rich, "ann", hem -> hem.sew(0, 99));
        refused("9 of a thread of 8", "ann", hem -> hem.sew(2, 9));
        refused("9 of 8 for a torn seam", "ann", hem -> hem.sew(1, 9));
        refused("99 of 8", "ann", hem -> hem.sew(1, 99));
        Check.part("promise 50, IllegalStateException");
        refused("a torn seam", "ann", hem -> hem.rip(1));
        refused("a seam worn to nothing", GLOBE + "pass 42;", "ann", hem -> hem.rip(2));
    }

    private static void travellers() {
        Check.part("promise 51, IllegalStateException");
        refused("stepObstacle() 1, east", "ann", hem -> hem.step(1, 0));
        refused("stepObstacle() 1, west", "ann", hem -> hem.step(1, 1));
        refused("stepObstacle() 2, east", "ann", hem -> hem.step(0, 0));
        refused("stepObstacle() 2, west", "ann", hem -> hem.step(2, 1));
        String round = GLOBE.replace("sew 0 70;", "rip 0;").replace("ann 4 99", "ann 4 359")
                .replace("bob 4 100", "bob 4 0");
        refused("stepObstacle() 2 from 359", round, "ann", hem -> hem.step(0, 0));
        refused("stepObstacle() 2 from 0", round, "ann", hem -> hem.step(2, 1));
        Check.part("promise 52, IllegalStateException");
        refused("walk of a town", "ann", hem -> hem.walk(1, 0, 5));
        refused("rest of a town", "ann", hem -> hem.walk(1, 1, 0));
    }

    private static void inputs() {
        Check.part("promise 2, IllegalStateException");
        String full = "z".repeat(600);
        refused("feed at 600", full, hem -> hem.feed(1, 2, 3, 4, 5));
        refused("feed at 599", full.substring(1), hem -> hem.feed(1, 2, 3, 4, 5));
        refused("feed at 581", full.substring(19), hem -> hem.feed(1, 2, 3, 4, 5));
    }

    /** Only the input buffer and the error change. */
    private static void texts() {
        Check.part("promise 4, an error");
        wrongText("globe 100 260; town x 0 0; hem 4 200; pass 9; thread 3; rip 2;", true, 2, 60);
        wrongText("globe 180 180; pass 1", true, 1, 21);
        wrongText("", true, 1, 0);
        Check.part("promise 5, an error");
        wrongText("pass 9; hem 4 200; rip 0; pass 00001;", false, 1, 31);
        wrongText("repeat 20 (pass 240; step 0 1;", false, 1, 30);
    }

    private static void wrongText(String text, boolean isDescription, int code, int offset) {
        DateHem hem = subject(GLOBE, text);
        Check.throwsArgument(text, () -> isDescription ? hem.readText() : hem.runScript());
        Check.due("length after " + text, Texts.inputLength(hem), 0);
        DateHem other = Texts.type(subject(GLOBE, ""), "");
        String untouched = Tale.of(other).replace("error 1 at 5", "error " + code + " at " + offset);
        Check.due("all that is shown after " + text, Tale.of(hem), untouched);
    }

    private static void nothingThere() {
        Check.part("promise 54, IllegalStateException");
        String fresh = Tale.of(new DateHem());
        DateHem hem = new DateHem();
        Check.throwsState("undo() at first", () -> hem.undo());
        Check.due("all that is shown", Tale.of(hem), fresh);
        Check.part("promise 58, IllegalStateException");
        DateHem unsaved = new DateHem();
        unsaved.pass(9);
        DateHem alike = new DateHem();
        alike.pass(9);
        Check.throwsState("restoreState() at first", () -> unsaved.restoreState());
        Check.due("all that is shown", Tale.of(unsaved), Tale.of(alike));
    }

    /** What stands first in the throws clause is thrown, although the state refuses, too. */
    private static void argumentsFirst() {
        Check.part("section 8, which exception");
        DateHem hem = subject(GLOBE, "");
        Check.throwsArgument("addTown", () -> hem.addTown(9, 0));
        Check.throwsArgument("addTraveller", () -> hem.addTraveller(0, 360));
        Check.throwsArgument("addLabel", () -> hem.addLabel(-1, 0));
        Check.throwsArgument("moveHem", () -> hem.moveHem(4, 360));
        Check.throwsArgument("sew", () -> hem.sew(0, 100));
        Check.throwsArgument("step of a town", () -> hem.step(1, 2));
        Check.throwsArgument("step over a torn seam", () -> hem.step(0, -1));
        Check.throwsArgument("walk of a town", () -> hem.walk(1, 0, 360));
        Check.throwsArgument("walk of a town anywhere", () -> hem.walk(1, 2, 0));
        Check.throwsIndex("sew", () -> hem.sew(3, 0));
        Check.throwsIndex("step", () -> hem.step(3, 2));
        Check.throwsIndex("walk", () -> hem.walk(3, 2, 360));
        Check.throwsIndex("stepObstacle", () -> hem.stepObstacle(-1, -1));
        Check.throwsIndex("meridianAfter", () -> hem.meridianAfter(-1, 301));
        Check.due("stepObstacle of a town", hem.stepObstacle(1, 0), 1);
        Check.throwsArgument("stepObstacle of a town anywhere", () -> hem.stepObstacle(1, 2));
    }
}
