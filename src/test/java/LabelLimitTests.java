/** The limits that section 4 names, and section 5 as far as it speaks of seams and labels. */
final class LabelLimitTests {
    private LabelLimitTests() {
    }

    static void run() {
        eightLabels();
        words();
        degrees();
        covers();
        crossesHem();
        crossesSeam();
        neverTheSeamZero();
        tornCoversNothing();
        everySixHours();
        strains();
        tornBeside();
        notMoreThanItHas();
        wearTearsLabels();
    }

    private static int add(DateHem hem, String word, int band, int meridian) {
        return Texts.type(hem, word).addLabel(band, meridian);
    }

    private static void eightLabels() {
        Check.part("section 4, at most 8 labels, numbered in the order in which they were added");
        DateHem hem = new DateHem();
        for (int n = 0; n < 8; n++) {
            Check.due("labelCount()", hem.labelCount(), n);
            Check.due("the number", add(hem, "a", 4, 90 - 10 * n), n);
        }
        for (int n = 0; n < 8; n++) {
            Check.due("its first meridian", hem.labelFirst(n), 90 - 10 * n);
        }
        Check.throwsState("a 9th", () -> add(hem, "a", 4, 100));
        Check.due("labelCount() then", hem.labelCount(), 8);
        DateHem torn = Texts.globe("globe 100 260;");
        for (int band = 0; band < 8; band++) {
            add(torn, "a", band, 98);
        }
        Check.due("all 8 become torn at once", torn.rip(1), 8);
        Check.due("torn ones are labels, too", torn.labelCount(), 8);
        Check.throwsState("a 9th beside 8 torn ones", () -> add(torn, "a", 4, 200));
    }

    private static void words() {
        Check.part("section 4, a word of 1 to 8 letters a to z");
        Check.throwsState("0 letters", () -> add(new DateHem(), "", 4, 0));
        Check.throwsState("9 letters", () -> add(new DateHem(), "abcdefghi", 4, 0));
        for (int letters = 1; letters <= 8; letters++) {
            DateHem hem = new DateHem();
            add(hem, "zzzzzzzz".substring(8 - letters), 4, 10);
            Check.due("the last of " + letters, hem.labelLast(0), 9 + 3 * letters);
        }
        for (char sign = 0; sign < 256; sign++) {
            int due = sign >= 'a' && sign <= 'z' ? 0 : 1;
            Check.due("the byte " + (int) sign,
                    Texts.type(new DateHem(), sign + "a").labelObstacle(4, 0), due);
        }
        DateHem same = Texts.halves("label a 4 0; label a 4 3; label a 5 0;");
        Check.due("the same word again and again", same.labelCount(), 3);
    }

    private static void degrees() {
        Check.part("section 4, 3 degrees a letter, plus 1 for each band up to the band 4");
        int[] each = {7, 6, 5, 4, 3, 4, 5, 6, 7};
        for (int band = 0; band < 9; band++) {
            DateHem hem = new DateHem();
            add(hem, "a", band, 0);
            add(hem, "abcdefgh", band, 200);
            Check.due("1 letter in band " + band, hem.labelLast(0), each[band] - 1);
            Check.due("8 letters in band " + band, hem.labelLast(1), 199 + 8 * each[band]);
        }
    }

    private static void covers() {
        Check.part("section 4, what a label covers");
        DateHem hem = Texts.halves("label ab 2 20; label a 2 30; label a 2 355; label b 6 0;");
        int[][] due = {{19, -1}, {20, 0}, {29, 0}, {30, 1}, {34, 1}, {35, -1}, {354, -1}, {355, 2},
            {359, 2}, {0, -1}};
        for (int[] pair : due) {
            Check.due("labelAt(2, " + pair[0] + ")", hem.labelAt(2, pair[0]), pair[1]);
        }
        Check.due("the band before", hem.labelAt(1, 20), -1);
        Check.due("the band behind", hem.labelAt(3, 20), -1);
        Check.due("the meridian 0", hem.labelAt(6, 0), 3);
        Check.due("one that would begin at its last", Texts.type(hem, "a").labelObstacle(2, 34), 3);
        Check.due("one that would begin behind it", hem.labelObstacle(2, 35), 0);
        Check.due("one that would end at its first", hem.labelObstacle(2, 16), 3);
        Check.due("one that would end before it", hem.labelObstacle(2, 15), 0);
    }

    private static void crossesHem() {
        Check.part("section 4, a label crosses the hem");
        DateHem hem = new DateHem();
        int[][] due = {{176, 0}, {177, 0}, {178, 4}, {179, 4}, {180, 0}, {181, 0}};
        for (int[] pair : due) {
            Check.due("a label from " + pair[0], Texts.type(hem, "a").labelObstacle(4, pair[0]), pair[1]);
        }
        DateHem label = Texts.halves("label a 4 190; label b 3 180;");
        int[][] moved = {{189, 0}, {190, 0}, {191, 3}, {192, 3}, {193, 0}};
        for (int[] pair : moved) {
            Check.due("the hem to " + pair[0], label.hemObstacle(4, pair[0]), pair[1]);
        }
        Check.due("from its first on", label.hemObstacle(3, 181), 3);
    }

    private static void crossesSeam() {
        Check.part("section 4, a label crosses a seam");
        for (int first = 95; first < 103; first++) {
            boolean crosses = first == 98 || first == 99;
            DateHem hem = Texts.globe("globe 100 260; label a 4 " + first + ";");
            Check.due("torn by rip, from " + first, hem.rip(1), crosses ? 1 : 0);
            Check.due("isLabelTorn, from " + first, hem.isLabelTorn(0), crosses);
            DateHem torn = Texts.globe("globe 100 260; rip 1;");
            Check.due("labelObstacle, from " + first, Texts.type(torn, "a").labelObstacle(4, first),
                    crosses ? 5 : 0);
        }
        Check.due("two seams", Texts.globe("globe 100 10 250; label abcd 4 99; rip 1;").rip(2), 0);
    }

    private static void neverTheSeamZero() {
        Check.part("section 4, no label crosses the seam 0");
        DateHem hem = Texts.halves("label a 4 0; label b 4 357;");
        Check.due("rip(0)", hem.rip(0), 0);
        Check.due("from 0", hem.isLabelTorn(0), false);
        Check.due("to 359", hem.isLabelTorn(1), false);
        Check.due("labelObstacle(5, 0)", Texts.type(hem, "a").labelObstacle(5, 0), 0);
        Check.due("labelObstacle(5, 356)", hem.labelObstacle(5, 356), 0);
    }

    private static void tornCoversNothing() {
        Check.part("section 4, a torn label covers nothing and crosses nothing any more");
        DateHem hem = Texts.globe("globe 190 170; label ab 4 187; label c 3 186; rip 1; sew 1 9;");
        Check.due("labelAt", hem.labelAt(4, 187), -1);
        Check.due("labelShare", hem.labelShare(4), 0f);
        Check.due("hemObstacle", hem.hemObstacle(4, 188), 0);
        Check.due("labelObstacle", Texts.type(hem, "a").labelObstacle(4, 187), 0);
        Check.due("rip once more", hem.rip(1), 0);
        Check.due("violations()", hem.violations(), 0);
        Check.due("labelLast", hem.labelLast(0), 192);
        hem.printBand(4);
        Check.due("picture", Texts.outputOf(hem), "+.................Hx................\n");
    }

    private static String stitches(DateHem hem) {
        StringBuilder all = new StringBuilder();
        for (int seam = 0; seam < hem.goreCount(); seam++) {
            all.append(hem.stitchesOf(seam)).append(' ');
        }
        return all.toString();
    }

    private static void everySixHours() {
        Check.part("section 5, step 3, if the clock is divisible by 6");
        DateHem hem = new DateHem();
        for (int clock = 1; clock <= 18; clock++) {
            hem.pass(1);
            int due = 20 - clock / 6 * 6;
            Check.due("clock " + clock, stitches(hem), due + " " + due + " ");
        }
        Check.due("not at the clock 0", stitches(Texts.halves("")), "20 20 ");
        Check.due("5 in a text", stitches(Texts.halves("pass 5;")), "20 20 ");
        Check.due("6 in a text", stitches(Texts.halves("pass 5; pass 1;")), "14 14 ");
        Check.due("11", stitches(Texts.halves("pass 11;")), "14 14 ");
        DateHem later = Texts.halves("pass 5;");
        later.pass(1);
        Check.due("the clock of a text goes on", stitches(later), "14 14 ");
    }

    private static void strains() {
        Check.part("section 5, step 3, the sum of the widths divided by 60 and rounded down");
        DateHem hem = Texts.globe("globe 10 10 39 20 40 19 41 78 103;");
        int[] due = {1, 0, 0, 0, 1, 0, 1, 1, 3};
        for (int seam = 0; seam < 9; seam++) {
            Check.due("strainOf(" + seam + ")", hem.strainOf(seam), due[seam]);
        }
        hem.pass(6);
        Check.due("what they lose", stitches(hem), "19 20 20 20 19 20 19 19 17 ");
        Check.due("59", Texts.globe("globe 29 30 301;").strainOf(1), 0);
        Check.due("60", Texts.globe("globe 30 30 300;").strainOf(1), 1);
        Check.due("119", Texts.globe("globe 60 59 241;").strainOf(1), 1);
        Check.due("120", Texts.globe("globe 60 60 240;").strainOf(1), 2);
        Check.due("359", Texts.globe("globe 10 340 10;").strainOf(1), 5);
        Check.due("360", Texts.globe("globe 10 350;").strainOf(1), 6);
    }

    private static void tornBeside() {
        Check.part("section 5, step 3, plus the torn seams before and after it, at that moment");
        String twelve = "globe 30 30 30 30 30 30 30 30 30 30 30 30;";
        DateHem none = Texts.globe(twelve);
        DateHem zero = Texts.globe(twelve + "rip 0;");
        DateHem last = Texts.globe(twelve + "rip 11;");
        DateHem both = Texts.globe(twelve + "rip 4; rip 6;");
        for (int seam = 0; seam < 12; seam++) {
            Check.due("none torn", none.strainOf(seam), 1);
            Check.due("beside the torn seam 0", zero.strainOf(seam), seam == 1 || seam == 11 ? 2 : 1);
            Check.due("beside the torn seam 11", last.strainOf(seam), seam == 0 || seam == 10 ? 2 : 1);
            int due = seam == 5 ? 3 : seam == 3 || seam == 7 ? 2 : 1;
            Check.due("beside the torn seams 4 and 6", both.strainOf(seam), due);
        }
        both.pass(6);
        Check.due("what they lose", stitches(both), "19 19 19 18 0 17 0 18 19 19 19 19 ");
        Check.part("section 5, step 3, the same seam before and after counts twice");
        DateHem halves = Texts.halves("rip 0;");
        Check.due("beside it", halves.strainOf(1), 8);
        Check.due("itself", halves.strainOf(0), 6);
        halves.pass(6);
        Check.due("what it loses", stitches(halves), "0 12 ");
        Check.part("section 5, step 3, in ascending order");
        DateHem order = Texts.halves("sew 1 20; pass 23;");
        Check.due("before", stitches(order), "2 22 ");
        Check.due("the seam 0 tears", order.pass(1), 1);
        Check.due("the seam 1 loses 2 more at once", stitches(order), "0 14 ");
        DateHem back = Texts.halves("sew 0 20; pass 23;");
        Check.due("the seam 1 tears", back.pass(1), 1);
        Check.due("the seam 0 had lost before", stitches(back), "16 0 ");
    }

    private static void notMoreThanItHas() {
        Check.part("section 5, step 3, not more than it has");
        DateHem hem = Texts.halves("rip 0; rip 1; sew 0 8; sew 1 9; pass 5;");
        Check.due("before", stitches(hem), "8 9 ");
        Check.due("6 of 8, 6 of 9", hem.pass(1), 0);
        Check.due("after", stitches(hem), "2 3 ");
        Check.due("6 of 2, 8 of 3", hem.pass(6), 2);
        Check.due("none is left", stitches(hem), "0 0 ");
        DateHem exactly = Texts.halves("rip 0; sew 0 6; pass 5;");
        Check.due("6 of 6", exactly.pass(1), 1);
        Check.due("none is left then", stitches(exactly), "0 12 ");
        DateHem nearly = Texts.halves("rip 0; sew 0 7; pass 5;");
        Check.due("6 of 7", nearly.pass(1), 0);
        Check.due("one is left", stitches(nearly), "1 14 ");
        Check.part("section 5, step 3, each seam that is not torn");
        Check.due("a torn one does not tear again", Texts.halves("rip 0; rip 1;").pass(240), 0);
    }

    private static void wearTearsLabels() {
        Check.part("section 5, step 3, if the seam is torn then, labels that cross it become torn");
        String labels = " label a 4 97; label b 4 100; label c 4 103; label d 0 99; label e 8 93;"
                + " label f 5 98;";
        DateHem hem = Texts.globe("globe 102 258;" + labels + " pass 23;");
        String before = torn(hem);
        Check.due("not yet", before, "000000");
        hem.pass(1);
        Check.due("those that cross it", torn(hem), "010100");
        Check.due("violations()", hem.violations(), 0);
        DateHem less = Texts.globe("globe 102 258; sew 1 9;" + labels + " pass 24;");
        Check.due("the seam 0 alone is torn", less.tornSeams(), 1);
        Check.due("none of them", torn(less), "000000");
    }

    private static String torn(DateHem hem) {
        StringBuilder all = new StringBuilder();
        for (int label = 0; label < hem.labelCount(); label++) {
            all.append(hem.isLabelTorn(label) ? 1 : 0);
        }
        return all.toString();
    }
}
