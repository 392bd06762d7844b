/** What is explained and foretold, tried out: the explanations agree with the changes. */
final class AgreementTests {
    private static final String GLOBE = "globe 60 110 20 170; person ann 4 170; town oslo 3 5;"
            + " person bob 5 59; person cyd 6 0; label abc 4 190; label d 4 140; label efgh 2 159;"
            + " hem 5 200; rip 1; rip 2; thread 9;";

    private AgreementTests() {
    }

    static void run() {
        hems();
        labels();
        steps();
        tears();
        walks();
    }

    /** What the call answers when it is made, or -1 if it is refused; nothing may change then. */
    private interface Change {
        int on(DateHem hem);
    }

    private static boolean isMade(DateHem hem, Change change) {
        try {
            change.on(hem);
            return true;
        } catch (IllegalStateException e) {
            return false;
        }
    }

    private static void hems() {
        Check.part("promises 37 and 48, the hem moves where there is no obstacle, and only there");
        int moved = 0;
        for (int band = 0; band < 9; band++) {
            for (int meridian = 0; meridian < 360; meridian++) {
                int b = band;
                int m = meridian;
                DateHem hem = Texts.globe(GLOBE);
                boolean free = hem.hemObstacle(band, meridian) == 0;
                boolean made = isMade(hem, globe -> globe.moveHem(b, m));
                Check.due("moveHem(" + band + ", " + meridian + ")", made, free);
                Check.due("violations() then", hem.violations(), 0);
                moved += made ? 1 : 0;
            }
        }
        Check.due("some moved", moved > 100 && moved < 2000, true);
    }

    private static void labels() {
        Check.part("promises 38 and 47, a label is added where there is no obstacle, and only there");
        int added = 0;
        for (String word : new String[] {"a", "abcdefgh"}) {
            for (int band = 0; band < 9; band++) {
                for (int meridian = 0; meridian < 360; meridian++) {
                    int b = band;
                    int m = meridian;
                    DateHem hem = Texts.type(Texts.globe(GLOBE), word);
                    boolean free = hem.labelObstacle(band, meridian) == 0;
                    boolean made = isMade(hem, globe -> globe.addLabel(b, m));
                    Check.due("addLabel(" + band + ", " + meridian + ") of " + word, made, free);
                    Check.due("violations() then", hem.violations(), 0);
                    added += made ? 1 : 0;
                }
            }
        }
        Check.due("some were added", added > 1000 && added < 6000, true);
    }

    private static void steps() {
        Check.part("promises 39 and 51, a step is made where there is no obstacle, and only there");
        for (int meridian = 0; meridian < 360; meridian++) {
            for (int direction = 0; direction < 2; direction++) {
                int way = direction;
                DateHem hem = Texts.globe("globe 60 110 20 170; rip 0; rip 2; person p 4 " + meridian + ";");
                boolean free = hem.stepObstacle(0, way) == 0;
                int border = way == 0 ? (meridian + 1) % 360 : meridian;
                Check.due("stepObstacle at " + meridian, free, border != 0 && border != 170);
                Check.due("step at " + meridian, isMade(hem, globe -> globe.step(0, way)), free);
                int next = (meridian + (way == 0 ? 1 : 359)) % 360;
                Check.due("where it is then", hem.meridianOf(0), free ? next : meridian);
                Check.due("violations() then", hem.violations(), 0);
            }
        }
    }

    private static final String[] WORN = {"globe 180 180;", "globe 10 350; sew 0 40;",
        "globe 29 30 301; sew 1 73;", "globe 60 110 20 170; rip 1; pass 4;",
        "globe 30 30 30 30 30 30 30 30 30 30 30 30; rip 0; sew 5 79; pass 11;",
        "globe 10 10 10 10 10 10 10 10 10 10 10 250; sew 11 30;"};

    private static void tears() {
        Check.part("promises 40 and 53, a seam tears after as many hours as is foretold");
        for (String text : WORN) {
            int seams = Texts.globe(text).goreCount();
            for (int seam = 0; seam < seams; seam++) {
                DateHem hem = Texts.globe(text);
                int told = hem.hoursUntilTear(seam);
                int hours = 0;
                while (hours < 300 && hem.stitchesOf(seam) > 0) {
                    hem.pass(1);
                    hours++;
                }
                int due = hem.stitchesOf(seam) > 0 ? DateHem.NONE : hours;
                Check.due("seam " + seam + " of " + text, told, due);
            }
        }
    }

    private static void walks() {
        Check.part("promises 41 and 53, a spot is after some hours where it is foretold");
        String[] walkers = {"walk ann east 359; walk bob west 40; walk cyd east 61;",
            "walk ann west 200; walk bob east 9; walk cyd west 359;", "walk ann east 15;"};
        for (String walk : walkers) {
            for (String seams : new String[] {"rip 1;", "sew 1 9; pass 20;", "sew 2 3; sew 3 60;"}) {
                String text = "globe 60 110 20 170; person ann 4 170; town oslo 3 5; person bob 5 59;"
                        + " person cyd 6 0;" + seams + walk;
                for (int hours = 0; hours <= 300; hours += hours < 12 ? 1 : 32) {
                    DateHem hem = Texts.globe(text);
                    DateHem later = Texts.globe(text);
                    for (int passed = 0; passed < hours; passed++) {
                        later.pass(1);
                    }
                    for (int spot = 0; spot < 4; spot++) {
                        Check.due("spot " + spot + " after " + hours + " of " + text,
                                hem.meridianAfter(spot, hours), later.meridianOf(spot));
                    }
                    Check.due("nothing has changed", Texts.stateOf(hem), Texts.stateOf(Texts.globe(text)));
                }
            }
        }
    }
}
