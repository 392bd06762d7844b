/** Promises 8 to 15: gores and seams. */
final class SeamTests {
    private SeamTests() {
    }

    static void run() {
        gores();
        Check.part("promise 12");
        stitches();
        Check.part("promise 13");
        strain();
        Check.part("promise 14");
        torn();
        Check.part("promise 15");
        thread();
    }

    private static void gores() {
        DateHem hem = Texts.globe("globe 10 50 300;");
        Check.part("promise 8");
        Check.due("goreCount()", hem.goreCount(), 3);
        Check.due("goreCount() at first", new DateHem().goreCount(), 2);
        Check.part("promise 9");
        Check.due("widthOf(0)", hem.widthOf(0), 10);
        Check.due("widthOf(1)", hem.widthOf(1), 50);
        Check.due("widthOf(2)", hem.widthOf(2), 300);
        Check.throwsIndex("widthOf(3)", () -> hem.widthOf(3));
        Check.throwsIndex("widthOf(-1)", () -> hem.widthOf(-1));
        Check.throwsIndex("widthOf(12)", () -> hem.widthOf(12));
        Check.part("promise 10");
        Check.due("beginOf(0)", hem.beginOf(0), 0);
        Check.due("beginOf(1)", hem.beginOf(1), 10);
        Check.due("beginOf(2)", hem.beginOf(2), 60);
        Check.throwsIndex("beginOf(3)", () -> hem.beginOf(3));
        Check.throwsIndex("beginOf(-1)", () -> hem.beginOf(-1));
        Check.part("promise 11");
        Check.due("goreAt(0)", hem.goreAt(0), 0);
        Check.due("goreAt(9)", hem.goreAt(9), 0);
        Check.due("goreAt(10)", hem.goreAt(10), 1);
        Check.due("goreAt(59)", hem.goreAt(59), 1);
        Check.due("goreAt(60)", hem.goreAt(60), 2);
        Check.due("goreAt(359)", hem.goreAt(359), 2);
        Check.throwsArgument("goreAt(360)", () -> hem.goreAt(360));
        Check.throwsArgument("goreAt(-1)", () -> hem.goreAt(-1));
    }

    private static void stitches() {
        DateHem hem = Texts.globe("globe 100 100 160; sew 1 79; rip 2;");
        Check.due("stitchesOf(0)", hem.stitchesOf(0), 20);
        Check.due("stitchesOf(1)", hem.stitchesOf(1), 99);
        Check.due("stitchesOf(2)", hem.stitchesOf(2), 0);
        Check.throwsIndex("stitchesOf(3)", () -> hem.stitchesOf(3));
        Check.throwsIndex("stitchesOf(-1)", () -> hem.stitchesOf(-1));
    }

    private static void strain() {
        DateHem hem = Texts.globe("globe 10 49 60 100 141;");
        Check.due("strainOf(0)", hem.strainOf(0), 2);
        Check.due("strainOf(1)", hem.strainOf(1), 0);
        Check.due("strainOf(2)", hem.strainOf(2), 1);
        Check.due("strainOf(3)", hem.strainOf(3), 2);
        Check.due("strainOf(4)", hem.strainOf(4), 4);
        hem.rip(0);
        Check.due("strainOf(0) torn", hem.strainOf(0), 2);
        Check.due("strainOf(1) beside", hem.strainOf(1), 1);
        Check.due("strainOf(4) beside", hem.strainOf(4), 5);
        Check.due("strainOf(2) not beside", hem.strainOf(2), 1);
        hem.rip(3);
        Check.due("strainOf(4) between", hem.strainOf(4), 6);
        hem.rip(4);
        Check.due("strainOf(4) torn between", hem.strainOf(4), 6);
        Check.due("strainOf(0) beside the last", hem.strainOf(0), 3);
        Check.throwsIndex("strainOf(5)", () -> hem.strainOf(5));
        Check.throwsIndex("strainOf(-1)", () -> hem.strainOf(-1));
        DateHem halves = Texts.halves("rip 1;");
        Check.due("the same seam on both sides", halves.strainOf(0), 8);
        Check.due("the torn one", halves.strainOf(1), 6);
    }

    private static void torn() {
        DateHem hem = Texts.globe("globe 100 100 160;");
        Check.due("none", hem.tornSeams(), 0);
        hem.rip(1);
        hem.rip(2);
        Check.due("two", hem.tornSeams(), 2);
        hem.sew(1, 1);
        Check.due("one sewn again", hem.tornSeams(), 1);
        hem.pass(240);
        Check.due("all", hem.tornSeams(), 3);
    }

    private static void thread() {
        DateHem hem = new DateHem();
        Check.due("at first", hem.thread(), 500);
        hem.sew(0, 7);
        Check.due("after sewing", hem.thread(), 493);
        Check.due("told", Texts.halves("thread 9999; rip 0;").thread(), 10009);
    }
}
