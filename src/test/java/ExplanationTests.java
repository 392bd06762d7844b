/** Promises 37 to 41: explanations and predictions. */
final class ExplanationTests {
    private ExplanationTests() {
    }

    static void run() {
        Check.part("promise 37");
        hems();
        hemsBesideLabels();
        Check.part("promise 38");
        labels();
        Check.part("promise 39");
        steps();
        Check.part("promise 40");
        tears();
        Check.part("promise 41");
        walks();
    }

    private static void hems() {
        DateHem hem = Texts.halves("");
        Check.due("there", hem.hemObstacle(4, 180), 1);
        Check.due("meridian 0", hem.hemObstacle(4, 0), 1);
        Check.due("60 east", hem.hemObstacle(4, 240), 0);
        Check.due("61 east", hem.hemObstacle(4, 241), 2);
        Check.due("60 west", hem.hemObstacle(4, 120), 0);
        Check.due("61 west", hem.hemObstacle(4, 119), 2);
        Check.due("the first band", hem.hemObstacle(0, 241), 2);
        Check.due("the last band", hem.hemObstacle(8, 119), 2);
        Check.due("the first band, 60", hem.hemObstacle(0, 240), 0);
        Check.due("the last band, 60", hem.hemObstacle(8, 120), 0);
        hem.moveHem(4, 240);
        Check.due("too far from the band before", hem.hemObstacle(5, 179), 2);
        Check.due("too far from the band behind", hem.hemObstacle(3, 179), 2);
        Check.due("between both", hem.hemObstacle(3, 181), 0);
        Check.due("not yet", hem.hemObstacle(4, 241), 2);
        Check.throwsArgument("hemObstacle(9, 1)", () -> hem.hemObstacle(9, 1));
        Check.throwsArgument("hemObstacle(-1, 1)", () -> hem.hemObstacle(-1, 1));
        Check.throwsArgument("hemObstacle(0, 360)", () -> hem.hemObstacle(0, 360));
        Check.throwsArgument("hemObstacle(0, -1)", () -> hem.hemObstacle(0, -1));
        hem.moveHem(0, 240);
        Check.due("band 1 beside band 0", hem.hemObstacle(1, 179), 2);
        hem.moveHem(8, 240);
        Check.due("band 7 beside band 8", hem.hemObstacle(7, 179), 2);
        DateHem poor = Texts.halves("thread 3;");
        Check.due("15 for 3", poor.hemObstacle(4, 195), 0);
        Check.due("16 for 3", poor.hemObstacle(4, 196), 4);
        Check.due("16 west for 3", poor.hemObstacle(4, 164), 4);
        Check.due("2 before 4", poor.hemObstacle(4, 300), 2);
        Check.due("1 before 4", Texts.halves("thread 0;").hemObstacle(4, 0), 1);
        Check.due("1 without thread", Texts.halves("thread 0;").hemObstacle(4, 181), 4);
        DateHem far = new DateHem();
        for (int band = 0; band < 9; band++) {
            far.moveHem(band, 240);
        }
        for (int band = 0; band < 9; band++) {
            far.moveHem(band, 300);
        }
        for (int band = 0; band < 9; band++) {
            far.moveHem(band, 359);
        }
        Check.due("1 is not near 359", far.hemObstacle(0, 1), 2);
    }

    private static void hemsBesideLabels() {
        DateHem hem = Texts.halves("label ab 4 190; label ab 5 200; thread 4;");
        Check.due("at its first meridian", hem.hemObstacle(4, 190), 0);
        Check.due("behind its first", hem.hemObstacle(4, 191), 3);
        Check.due("at its last", hem.hemObstacle(4, 195), 3);
        Check.due("behind it", hem.hemObstacle(4, 196), 0);
        Check.due("label of another band", hem.hemObstacle(4, 200), 0);
        Check.due("3 before 4", hem.hemObstacle(5, 201), 3);
        Check.due("2 before 3", Texts.halves("label ab 4 250;").hemObstacle(4, 251), 2);
        DateHem torn = Texts.globe("globe 192 168; label ab 4 190; rip 1;");
        Check.due("torn", torn.hemObstacle(4, 191), 0);
    }

    private static int label(DateHem hem, String word, int band, int meridian) {
        return Texts.type(hem, word).labelObstacle(band, meridian);
    }

    private static void labels() {
        DateHem hem = Texts.globe("globe 100 260; label ab 4 50; rip 1;");
        Check.due("fine", label(hem, "abc", 4, 0), 0);
        Check.due("kept", Texts.inputLength(hem), 3);
        Check.due("empty", label(hem, "", 4, 0), 1);
        Check.due("nine letters", label(hem, "abcdefghi", 4, 0), 1);
        Check.due("eight letters", label(hem, "abcdefgh", 4, 0), 0);
        Check.due("capital", label(hem, "aB", 4, 0), 1);
        Check.due("blank", label(hem, "a ", 4, 0), 1);
        Check.due("digit", label(hem, "a1", 4, 0), 1);
        Check.due("around a to z", label(hem, "`", 4, 0) + label(hem, "{", 4, 0), 2);
        Check.due("1 before 2", label(hem, "A", 4, 359), 1);
        Check.due("to 359", label(hem, "a", 4, 357), 0);
        Check.due("to 360", label(hem, "a", 4, 358), 2);
        Check.due("to 359 in band 0", label(hem, "ab", 0, 346), 0);
        Check.due("to 360 in band 0", label(hem, "ab", 0, 347), 2);
        Check.due("over its first", label(hem, "a", 4, 48), 3);
        Check.due("before it", label(hem, "a", 4, 47), 0);
        Check.due("over its last", label(hem, "a", 4, 55), 3);
        Check.due("behind it", label(hem, "a", 4, 56), 0);
        Check.due("all over it", label(hem, "abcdefgh", 4, 40), 3);
        Check.due("within it", label(hem, "a", 4, 51), 3);
        Check.due("in another band", label(hem, "a", 3, 50), 0);
        Check.due("over the hem", label(hem, "a", 4, 178), 4);
        Check.due("from the hem on", label(hem, "a", 4, 180), 0);
        Check.due("up to the hem", label(hem, "a", 4, 177), 0);
        Check.due("over a torn seam", label(hem, "a", 4, 98), 5);
        Check.due("from before a torn seam on", label(hem, "a", 4, 99), 5);
        Check.due("up to a torn seam", label(hem, "a", 4, 97), 0);
        Check.due("from a torn seam on", label(hem, "a", 4, 100), 0);
        Check.due("in any band", label(hem, "a", 0, 95), 5);
        Texts.type(hem, "a");
        Check.throwsArgument("labelObstacle(9, 0)", () -> hem.labelObstacle(9, 0));
        Check.throwsArgument("labelObstacle(-1, 0)", () -> hem.labelObstacle(-1, 0));
        Check.throwsArgument("labelObstacle(0, 360)", () -> hem.labelObstacle(0, 360));
        Check.throwsArgument("labelObstacle(0, -1)", () -> hem.labelObstacle(0, -1));
        labelOrder();
    }

    private static void labelOrder() {
        DateHem hem = Texts.globe("globe 175 185; label a 4 176; label b 3 168; rip 1;");
        Check.due("3 before 4", label(hem, "abc", 4, 174), 3);
        Check.due("4 before 5", label(hem, "abc", 3, 174), 4);
        Check.due("3 before 5", label(hem, "ab", 4, 174), 3);
        DateHem sewn = Texts.globe("globe 100 260;");
        Check.due("over a sewn seam", label(sewn, "a", 4, 98), 0);
        DateHem torn = Texts.globe("globe 100 260; label a 4 98; rip 1; sew 1 1;");
        Check.due("over a torn label", label(torn, "a", 4, 98), 0);
        DateHem late = Texts.halves("label a 4 357;");
        Check.due("2 before 3", label(late, "ab", 4, 355), 2);
    }

    private static void steps() {
        DateHem hem = Texts.globe("globe 100 260; town t 4 99; person p 4 99; person q 4 100;"
                + " person r 4 359; person s 4 0; rip 1;");
        Check.due("a town", hem.stepObstacle(0, 0), 1);
        Check.due("a town west", hem.stepObstacle(0, 1), 1);
        Check.due("east over it", hem.stepObstacle(1, 0), 2);
        Check.due("west before it", hem.stepObstacle(1, 1), 0);
        Check.due("east behind it", hem.stepObstacle(2, 0), 0);
        Check.due("west over it", hem.stepObstacle(2, 1), 2);
        Check.due("over the sewn seam 0", hem.stepObstacle(3, 0), 0);
        Check.due("over the sewn seam 0 west", hem.stepObstacle(4, 1), 0);
        hem.rip(0);
        Check.due("over the seam 0", hem.stepObstacle(3, 0), 2);
        Check.due("from 359 west", hem.stepObstacle(3, 1), 0);
        Check.due("over the seam 0 west", hem.stepObstacle(4, 1), 2);
        Check.due("from 0 east", hem.stepObstacle(4, 0), 0);
        Check.throwsIndex("stepObstacle(5, 0)", () -> hem.stepObstacle(5, 0));
        Check.throwsIndex("stepObstacle(-1, 0)", () -> hem.stepObstacle(-1, 0));
        Check.throwsIndex("stepObstacle(5, 2)", () -> hem.stepObstacle(5, 2));
        Check.throwsArgument("stepObstacle(0, 2)", () -> hem.stepObstacle(0, 2));
        Check.throwsArgument("stepObstacle(1, -1)", () -> hem.stepObstacle(1, -1));
    }

    private static void tears() {
        DateHem hem = new DateHem();
        Check.due("at first", hem.hoursUntilTear(0), 24);
        Check.due("its neighbour first", hem.hoursUntilTear(1), 24);
        hem.pass(1);
        Check.due("an hour later", hem.hoursUntilTear(0), 23);
        hem.pass(22);
        Check.due("an hour before", hem.hoursUntilTear(0), 1);
        hem.pass(1);
        Check.due("torn", hem.hoursUntilTear(0), 0);
        Check.due("all torn", hem.tornSeams(), 2);
        Check.throwsIndex("hoursUntilTear(2)", () -> hem.hoursUntilTear(2));
        Check.throwsIndex("hoursUntilTear(-1)", () -> hem.hoursUntilTear(-1));
        DateHem slow = Texts.globe("globe 29 30 61 120 120;");
        Check.due("the most strained", slow.hoursUntilTear(4), 30);
        Check.due("its neighbour", slow.hoursUntilTear(3), 42);
        Check.due("worn by its neighbours alone", slow.hoursUntilTear(1), 126);
        // The others tear at 24 hours; from then on it loses 1, and 2 in each 6 hours more.
        Check.due("at 300", Texts.globe("globe 29 30 301; sew 1 73;").hoursUntilTear(1), 300);
        DateHem far = Texts.globe("globe 29 30 301; sew 1 74;");
        Check.due("at 306", far.hoursUntilTear(1), -1);
        String state = Texts.stateOf(far);
        Check.due("another", far.hoursUntilTear(2), 24);
        Check.due("state", Texts.stateOf(far), state);
        far.pass(5);
        Check.due("at 306 by the clock, 5 hours later", far.hoursUntilTear(1), -1);
        far.pass(1);
        Check.due("at 306 by the clock, 6 hours later", far.hoursUntilTear(1), 300);
    }

    private static void walks() {
        DateHem hem = Texts.halves("town t 0 7; person p 4 300; walk p east 70; person q 5 9;");
        Check.due("now", hem.meridianAfter(1, 0), 300);
        Check.due("an hour", hem.meridianAfter(1, 1), 310);
        Check.due("six hours", hem.meridianAfter(1, 6), 0);
        Check.due("ten hours", hem.meridianAfter(1, 10), 10);
        Check.due("300 hours", hem.meridianAfter(1, 300), 10);
        Check.due("a town", hem.meridianAfter(0, 300), 7);
        Check.due("one at rest", hem.meridianAfter(2, 300), 9);
        Check.due("still there", hem.meridianOf(1), 300);
        Check.due("clock()", hem.clock(), 0);
        Check.due("degreesLeft()", hem.degreesLeft(1), 70);
        Check.due("stitchesOf(0)", hem.stitchesOf(0), 20);
        Check.throwsIndex("meridianAfter(3, 0)", () -> hem.meridianAfter(3, 0));
        Check.throwsIndex("meridianAfter(-1, 301)", () -> hem.meridianAfter(-1, 301));
        Check.throwsArgument("meridianAfter(1, 301)", () -> hem.meridianAfter(1, 301));
        Check.throwsArgument("meridianAfter(1, -1)", () -> hem.meridianAfter(1, -1));
        hem.pass(19);
        hem.walk(1, 1, 359);
        Check.due("before it tears", hem.meridianAfter(1, 1), 0);
        hem.step(1, 0);
        hem.step(1, 0);
        Check.due("over the seam", hem.meridianAfter(1, 2), 352);
        Check.due("stopped by the torn seam", hem.meridianAfter(1, 300), 180);
    }
}
