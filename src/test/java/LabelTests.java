/** Promises 31 to 36: labels. */
final class LabelTests {
    private LabelTests() {
    }

    static void run() {
        DateHem hem = Texts.halves("label abc 4 100; label ab 0 160; label a 8 10; label a 5 10;"
                + " label a 3 10; label abcdefgh 1 304;");
        Check.part("promise 31");
        Check.due("none", new DateHem().labelCount(), 0);
        Check.due("labelCount()", hem.labelCount(), 6);
        Check.part("promise 32");
        Check.due("labelBand(0)", hem.labelBand(0), 4);
        Check.due("labelBand(1)", hem.labelBand(1), 0);
        Check.throwsIndex("labelBand(6)", () -> hem.labelBand(6));
        Check.throwsIndex("labelBand(-1)", () -> hem.labelBand(-1));
        Check.part("promise 33");
        Check.due("labelFirst(0)", hem.labelFirst(0), 100);
        Check.due("labelFirst(5)", hem.labelFirst(5), 304);
        Check.throwsIndex("labelFirst(6)", () -> hem.labelFirst(6));
        Check.throwsIndex("labelFirst(-1)", () -> hem.labelFirst(-1));
        lasts(hem);
        torn();
        places();
    }

    private static void lasts(DateHem hem) {
        Check.part("promise 34");
        Check.due("band 4", hem.labelLast(0), 108);
        Check.due("band 8", hem.labelLast(2), 16);
        Check.due("band 5", hem.labelLast(3), 13);
        Check.due("band 3", hem.labelLast(4), 13);
        Check.due("band 1", hem.labelLast(5), 351);
        Check.throwsIndex("labelLast(6)", () -> hem.labelLast(6));
        Check.throwsIndex("labelLast(-1)", () -> hem.labelLast(-1));
        for (int band = 0; band < 9; band++) {
            DateHem one = Texts.type(new DateHem(), "ab");
            one.addLabel(band, 20);
            int[] due = {33, 31, 29, 27, 25, 27, 29, 31, 33};
            Check.due("ab in band " + band, one.labelLast(0), due[band]);
        }
    }

    private static void torn() {
        Check.part("promise 35");
        DateHem hem = Texts.globe("globe 100 260; label a 4 98; label a 4 101; label a 5 97;"
                + " label a 6 100; label ab 4 92;");
        Check.due("at first", hem.isLabelTorn(0), false);
        Check.due("rip(1)", hem.rip(1), 2);
        Check.due("at the last meridian", hem.isLabelTorn(0), true);
        Check.due("behind", hem.isLabelTorn(1), false);
        Check.due("in another band", hem.isLabelTorn(2), true);
        Check.due("at the first meridian", hem.isLabelTorn(3), false);
        Check.due("before", hem.isLabelTorn(4), false);
        Check.throwsIndex("isLabelTorn(5)", () -> hem.isLabelTorn(5));
        Check.throwsIndex("isLabelTorn(-1)", () -> hem.isLabelTorn(-1));
        Check.due("labelCount() with torn ones", hem.labelCount(), 5);
        Check.due("labelLast() of a torn one", hem.labelLast(0), 100);
        hem.sew(1, 3);
        Check.due("stays torn", hem.isLabelTorn(0), true);
        DateHem worn = Texts.globe("globe 100 260; label a 4 98; label b 4 200;");
        worn.pass(18);
        Check.due("before the seam tears", worn.isLabelTorn(0), false);
        worn.pass(6);
        Check.due("as the seam tears", worn.isLabelTorn(0), true);
        Check.due("elsewhere", worn.isLabelTorn(1), false);
    }

    private static void places() {
        Check.part("promise 36");
        DateHem hem = Texts.halves("label abc 4 100; label b 4 109; label c 3 176; label d 4 0;");
        Check.due("before", hem.labelAt(4, 99), -1);
        Check.due("the first meridian", hem.labelAt(4, 100), 0);
        Check.due("the last meridian", hem.labelAt(4, 108), 0);
        Check.due("the next", hem.labelAt(4, 109), 1);
        Check.due("behind", hem.labelAt(4, 112), -1);
        Check.due("another band", hem.labelAt(5, 100), -1);
        Check.due("the meridian 0", hem.labelAt(4, 0), 3);
        Check.due("the meridian 359", hem.labelAt(4, 359), -1);
        Check.throwsArgument("labelAt(9, 0)", () -> hem.labelAt(9, 0));
        Check.throwsArgument("labelAt(-1, 0)", () -> hem.labelAt(-1, 0));
        Check.throwsArgument("labelAt(0, 360)", () -> hem.labelAt(0, 360));
        Check.throwsArgument("labelAt(0, -1)", () -> hem.labelAt(0, -1));
        hem.moveHem(3, 170);
        hem.moveHem(3, 185);
        Check.due("sewn", hem.labelAt(3, 178), 2);
        DateHem torn = Texts.halves("hem 3 200; label c 3 178; rip 1; label d 3 180; label e 3 174;");
        Check.due("a torn one", torn.labelAt(3, 178), -1);
        Check.due("a new one over it", torn.labelAt(3, 180), 1);
        Check.due("beside the seam", torn.labelAt(3, 177), 2);
    }
}
