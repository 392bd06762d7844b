/** All promises with as many gores, spots and labels as there can be. */
final class FullTests {
    private FullTests() {
    }

    static void run() {
        Check.part("a full globe");
        DateHem hem = Texts.globe("globe 30 30 30 30 30 30 30 30 30 30 30 30;"
                + text("person ", 10) + text("label ", 8));
        asked(hem);
        changed(hem);
    }

    private static String text(String statement, int count) {
        StringBuilder all = new StringBuilder();
        for (int n = 0; n < count; n++) {
            all.append(statement).append((char) ('a' + n)).append(' ').append(Math.min(n, 8));
            all.append(statement.equals("label ") ? " 181;" : " 350;");
        }
        return all.toString();
    }

    private static void asked(DateHem hem) {
        Check.due("goreCount()", hem.goreCount(), 12);
        Check.due("spotCount()", hem.spotCount(), 10);
        Check.due("labelCount()", hem.labelCount(), 8);
        Check.due("beginOf(11)", hem.beginOf(11), 330);
        Check.due("goreAt(359)", hem.goreAt(359), 11);
        Check.due("strainOf(11)", hem.strainOf(11), 1);
        Check.due("tornSeams()", hem.tornSeams(), 0);
        Check.due("meanStitches()", hem.meanStitches(), 20.0);
        Check.due("violations()", hem.violations(), 0);
        Check.due("nextMidnight()", hem.nextMidnight(), 0);
        Check.due("hoursUntilTear(11)", hem.hoursUntilTear(11), 120);
        Check.due("meridianAfter(9, 300)", hem.meridianAfter(9, 300), 350);
        Check.due("hemObstacle(8, 182)", hem.hemObstacle(8, 182), 0);
        Check.due("hemObstacle(7, 182)", hem.hemObstacle(7, 182), 3);
        Check.due("labelAt(7, 187)", hem.labelAt(7, 186), 7);
        Check.due("labelAt(8, 187)", hem.labelAt(8, 187), -1);
        Check.due("labelObstacle(8, 181)", Texts.type(hem, "j").labelObstacle(8, 181), 0);
        Check.due("findSpot()", hem.findSpot(), 9);
        Check.due("findSpot() of none", Texts.type(hem, "k").findSpot(), -1);
        Check.due("labelShare(7)", hem.labelShare(7), 6f / 360f);
        Check.due("labelShare(8)", hem.labelShare(8), 0f);
        hem.printBand(8);
        Check.due("picture", Texts.outputOf(hem), "+..+..+..+..+..+..H..+..+..+..+..+..\n");
    }

    private static void changed(DateHem hem) {
        String before = Texts.stateOf(hem);
        Check.throwsState("addTown", () -> Texts.type(hem, "k").addTown(0, 0));
        Check.throwsState("addLabel", () -> hem.addLabel(8, 0));
        hem.saveState();
        Check.due("moveHem(8, 170)", hem.moveHem(8, 170), 0);
        Check.due("walk", hem.walk(9, 0, 99), 0);
        Check.due("rip(11)", hem.rip(11), 0);
        Check.due("step(9, 0)", hem.step(9, 0), 351);
        Check.due("pass(6)", hem.pass(6), 0);
        Check.due("meridianOf(9)", hem.meridianOf(9), 51);
        Check.due("stitchesOf(0)", hem.stitchesOf(0), 18);
        Check.due("stitchesOf(10)", hem.stitchesOf(10), 18);
        Check.due("pass(114)", hem.pass(114), 11);
        Check.due("violations()", hem.violations(), 0);
        for (int left = 5; left >= 0; left--) {
            Check.due("undo()", hem.undo(), left);
        }
        Check.due("state after undo()", Texts.stateOf(hem), before);
        hem.pass(240);
        hem.restoreState();
        Check.due("state after restoreState()", Texts.stateOf(hem), before);
    }
}
