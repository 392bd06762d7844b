/** Promises 42 to 44: checks and measures. */
final class MeasureTests {
    private MeasureTests() {
    }

    static void run() {
        Check.part("promise 42");
        violations();
        Check.part("promise 43");
        Check.due("at first", new DateHem().meanStitches(), 20.0);
        Check.due("a half", Texts.halves("sew 0 1;").meanStitches(), 20.5);
        Check.due("a third", Texts.globe("globe 100 100 160; sew 1 1;").meanStitches(), 61.0 / 3.0);
        Check.due("none", Texts.halves("rip 0; rip 1;").meanStitches(), 0.0);
        Check.part("promise 44");
        shares();
    }

    private static void violations() {
        Check.due("at first", new DateHem().violations(), 0);
        DateHem hem = Texts.halves("person a 4 170; person b 4 190; person c 0 359;"
                + " label x 4 177; label y 3 184; hem 5 190; walk a east 300; walk c west 359;");
        for (int n = 0; n < 60; n++) {
            hem.pass(1);
            Check.due("after the hour " + n, hem.violations(), 0);
        }
        hem.moveHem(4, 150);
        Check.due("after a hem", hem.violations(), 0);
        hem.moveHem(4, 200);
        Check.due("after another", hem.violations(), 0);
    }

    private static void shares() {
        DateHem hem = Texts.globe("globe 100 260; label ab 4 10; label c 4 98; label d 4 200; label e 0 0;");
        Check.due("three", hem.labelShare(4), 12f / 360f);
        Check.due("one", hem.labelShare(0), 7f / 360f);
        Check.due("none", hem.labelShare(8), 0f);
        hem.rip(1);
        Check.due("one torn", hem.labelShare(4), 9f / 360f);
        Check.throwsArgument("labelShare(9)", () -> hem.labelShare(9));
        Check.throwsArgument("labelShare(-1)", () -> hem.labelShare(-1));
    }
}
