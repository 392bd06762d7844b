/** The limits that promises 37 to 56 name beyond those of the sections. */
final class AnswerLimitTests {
    private AnswerLimitTests() {
    }

    static void run() {
        hemOrder();
        hemNeighbours();
        hemPrices();
        labelOrder();
        stepOrder();
        tears();
        foreseen();
        noViolations();
        means();
        shares();
        changed();
        hours();
        pictures();
        groups();
        bytes();
    }

    private static void hemOrder() {
        Check.part("promise 37, the first that applies");
        DateHem hem = Texts.halves("label a 4 240;label b 4 200;thread 4;");
        Check.due("none", hem.hemObstacle(4, 200), 0);
        Check.due("1 alone", hem.hemObstacle(4, 180), 1);
        Check.due("1, 2 and 4", hem.hemObstacle(4, 0), 1);
        Check.due("2, 3 and 4", hem.hemObstacle(4, 241), 2);
        Check.due("2 and 4", hem.hemObstacle(4, 250), 2);
        Check.due("3 and 4", hem.hemObstacle(4, 201), 3);
        Check.due("3 alone", Texts.halves("label b 4 200;").hemObstacle(4, 202), 3);
        Check.due("4 alone", hem.hemObstacle(4, 203), 4);
        Check.due("2 alone", Texts.halves("").hemObstacle(4, 241), 2);
        Check.due("1 at a meridian that is the hem of others", Texts.halves("hem 4 190;")
                .hemObstacle(4, 180), 0);
    }

    private static void hemNeighbours() {
        Check.part("promise 37, more than 60 away from a band before or after");
        for (int band = 0; band < 9; band++) {
            DateHem hem = new DateHem();
            int[][] due = {{119, 2}, {120, 0}, {240, 0}, {241, 2}, {1, 2}, {359, 2}};
            for (int[] pair : due) {
                Check.due("band " + band + " to " + pair[0], hem.hemObstacle(band, pair[0]), pair[1]);
            }
            hem.moveHem(band, 200);
            for (int other = 0; other < 9; other++) {
                boolean beside = Math.abs(other - band) == 1;
                Check.due("band " + other + " to 139", hem.hemObstacle(other, 139), beside ? 2 : 0);
                Check.due("band " + other + " to 140", hem.hemObstacle(other, 140), 0);
            }
        }
    }

    private static void hemPrices() {
        Check.part("promises 37 and 48, a fifth of the difference, rounded up");
        int[][] prices = {{1, 1}, {4, 1}, {5, 1}, {6, 2}, {9, 2}, {10, 2}, {11, 3}, {55, 11}, {56, 12},
            {60, 12}};
        for (int[] pair : prices) {
            for (int way = -1; way <= 1; way += 2) {
                int to = 180 + way * pair[0];
                DateHem enough = Texts.halves("thread " + pair[1] + ";");
                Check.due("enough for " + to, enough.hemObstacle(4, to), 0);
                enough.moveHem(4, to);
                Check.due("what is left for " + to, enough.thread(), 0);
                Check.due("the hem at " + to, enough.hemAt(4), to);
                DateHem less = Texts.halves("thread " + (pair[1] - 1) + ";");
                Check.due("too little for " + to, less.hemObstacle(4, to), 4);
                Check.throwsState("too little for " + to, () -> less.moveHem(4, to));
            }
        }
    }

    private static int label(DateHem hem, String word, int meridian) {
        return Texts.type(hem, word).labelObstacle(4, meridian);
    }

    private static void labelOrder() {
        Check.part("promise 38, the first that applies");
        DateHem hem = Texts.globe("globe 350 10;label a 4 353;rip 1;");
        Check.due("none", label(hem, "a", 100), 0);
        Check.due("1 and 2", label(hem, "abcdefghi", 350), 1);
        Check.due("1 and 3", label(hem, "", 353), 1);
        Check.due("2, 3 and 5", label(hem, "abcd", 349), 2);
        Check.due("3 and 5", label(hem, "abc", 349), 3);
        Check.due("5 alone", label(hem, "a", 349), 5);
        DateHem both = Texts.globe("globe 182 178;label a 4 177;rip 1;");
        Check.due("3, 4 and 5", label(both, "abc", 176), 3);
        Check.due("4 and 5", label(Texts.globe("globe 182 178;rip 1;"), "abc", 176), 4);
        Check.due("3 and 4", label(both, "a", 179), 3);
        Check.due("4 alone", label(new DateHem(), "a", 179), 4);
        Check.due("2 alone", label(new DateHem(), "a", 358), 2);
        Check.due("1 at its length of 600", label(hem, "a".repeat(600), 0), 1);
        Check.part("promise 38, the whole input buffer, which is kept");
        Check.due("the length", Texts.inputLength(hem), 600);
        Check.due("a zero byte", label(hem, "\0", 0), 1);
        Check.due("a zero byte before", label(hem, "\0a", 0), 1);
        Check.due("8 labels are no obstacle", label(Texts.halves("label a 0 0;label a 1 0;label a 2 0;"
                + "label a 3 0;label a 4 0;label a 5 0;label a 6 0;label a 7 0;"), "a", 50), 0);
    }

    private static void stepOrder() {
        Check.part("promise 39, 1 before 2");
        DateHem hem = Texts.halves("rip 0;town a 4 359;person b 4 359;town c 4 0;person d 4 0;");
        Check.due("a town at a torn seam", hem.stepObstacle(0, 0), 1);
        Check.due("a traveller there", hem.stepObstacle(1, 0), 2);
        Check.due("a town behind it", hem.stepObstacle(2, 1), 1);
        Check.due("a traveller behind it", hem.stepObstacle(3, 1), 2);
        Check.due("the other way", hem.stepObstacle(1, 1) + hem.stepObstacle(3, 0), 0);
    }

    private static void tears() {
        Check.part("promise 40, 1 to 300 hours, 0 if it is torn now, NONE if there is none");
        DateHem torn = Texts.halves("rip 0;");
        Check.due("now", torn.hoursUntilTear(0), 0);
        Check.due("its neighbour: 8 each time", torn.hoursUntilTear(1), 18);
        DateHem soon = Texts.halves("pass 23;");
        Check.due("1", soon.hoursUntilTear(0), 1);
        Check.due("nothing changes", soon.clock() * 100 + soon.stitchesOf(0), 2302);
        Check.due("24", Texts.halves("").hoursUntilTear(0), 24);
        // Seam 1 wears by 1 for 19 times, by 2 as seam 0 tears before it, and by 3 for 26 times.
        String slow = "globe 30 30 300;rip 1;sew 1 99;sew 0 79;sew 2 79;";
        Check.due("its neighbours", Texts.globe(slow).hoursUntilTear(0), 120);
        Check.due("worn by more and more", Texts.globe(slow).hoursUntilTear(1), 276);
        // Both sides are torn and it wears by 2 each time.
        String bare = "globe 10 10 340;rip 0;rip 2;";
        Check.due("20 stitches", Texts.globe(bare).hoursUntilTear(1), 60);
        Check.due("98 stitches", Texts.globe(bare + "sew 1 78;").hoursUntilTear(1), 294);
        Check.due("99 stitches", Texts.globe(bare + "sew 1 79;").hoursUntilTear(1), 300);
        // Seam 6 wears by 1 each time, as its neighbours hold.
        String even = "globe 30 30 30 30 30 30 30 30 30 30 30 30;rip 6;"
                + "sew 5 79;sew 7 79;sew 4 79;sew 8 79;";
        DateHem wide = Texts.globe(even + "sew 6 51;");
        Check.due("51 of 1", wide.hoursUntilTear(6), -1);
        DateHem less = Texts.globe(even + "sew 6 50;");
        Check.due("50 of 1", less.hoursUntilTear(6), 300);
        less.pass(1);
        Check.due("an hour later", less.hoursUntilTear(6), 299);
        wide.pass(5);
        Check.due("301 hours before", wide.hoursUntilTear(6), -1);
        wide.pass(1);
        Check.due("300 hours before", wide.hoursUntilTear(6), 300);
    }

    private static void foreseen() {
        Check.part("promise 41, 0 to 300 hours");
        DateHem hem = Texts.halves("sew 0 79;sew 1 79;person a 4 100;walk a east 359;town b 4 7;");
        Check.due("0", hem.meridianAfter(0, 0), 100);
        Check.due("1", hem.meridianAfter(0, 1), 110);
        Check.due("35", hem.meridianAfter(0, 35), 90);
        Check.due("36", hem.meridianAfter(0, 36), 99);
        Check.due("300", hem.meridianAfter(0, 300), 99);
        Check.due("a town after 0", hem.meridianAfter(1, 0), 7);
        Check.due("a town after 300", hem.meridianAfter(1, 300), 7);
        DateHem late = Texts.halves("sew 0 60;sew 1 60;person a 4 179;");
        late.pass(83);
        late.walk(0, 0, 1);
        Check.due("over a seam that tears in the same hour", late.meridianAfter(0, 1), 180);
        late.pass(1);
        Check.due("as foreseen", late.meridianOf(0), 180);
        late.walk(0, 1, 1);
        Check.due("not back", late.meridianAfter(0, 300), 180);
    }

    private static void noViolations() {
        Check.part("promise 42, always 0");
        Check.due("a new object", new DateHem().violations(), 0);
        DateHem hem = Texts.globe("globe 100 10 250;person a 4 99;person b 4 359;label c 4 107;"
                + "label d 4 177;");
        hem.rip(2);
        Check.due("a torn label", hem.violations(), 0);
        for (int to : new int[] {120, 130, 240, 181, 180}) {
            hem.moveHem(4, to);
            Check.due("the hem at " + to, hem.violations(), 0);
        }
        hem.step(1, 0);
        Check.due("over the meridian 0", hem.violations(), 0);
        hem.pass(240);
        Check.due("all torn", hem.violations(), 0);
    }

    private static void means() {
        Check.part("promise 43, the mean of the stitches");
        String twelve = "globe 30 30 30 30 30 30 30 30 30 30 30 30;thread 9999;";
        StringBuilder most = new StringBuilder(twelve);
        for (int seam = 0; seam < 12; seam++) {
            most.append("sew ").append(seam).append(" 79;");
        }
        Check.due("all 99", Texts.globe(most.toString()).meanStitches(), 99.0);
        Check.due("all torn", Texts.halves("rip 0;rip 1;").meanStitches(), 0.0);
        Check.due("a twelfth", Texts.globe(twelve + "sew 11 1;").meanStitches(), 241.0 / 12.0);
        Check.due("a seventh", Texts.globe("globe 50 50 50 50 50 50 60;rip 0;").meanStitches(),
                120.0 / 7.0);
    }

    private static void shares() {
        Check.part("promise 44, the share of the meridians");
        DateHem full = Texts.halves("label abcdefgh 1 0;label abcdefgh 1 48;label abcdefgh 1 96;"
                + "label abcdef 1 144;label abcdefgh 1 180;label abcdefgh 1 228;label abcdefgh 1 276;"
                + "label abcdef 1 324;");
        Check.due("all", full.labelShare(1), 1f);
        Check.due("the band before", full.labelShare(0), 0f);
        Check.due("the band behind", full.labelShare(2), 0f);
        for (int meridian = 0; meridian < 360; meridian++) {
            Check.due("labelAt", full.labelAt(1, meridian) != -1, true);
        }
        full.rip(1);
        Check.due("the seam is at a label's first", full.labelShare(1), 1f);
        Check.due("1 letter", Texts.halves("label a 4 0;").labelShare(4), 3f / 360f);
        Check.due("7 letters", Texts.halves("label abcdefg 8 0;").labelShare(8), 49f / 360f);
    }

    private static void changed() {
        Check.part("promise 48, the number of travellers whose diaries change");
        StringBuilder ten = new StringBuilder();
        for (char letter = 'a'; letter <= 'j'; letter++) {
            ten.append("person ").append(letter).append(" 4 ").append(180 + letter - 'a').append(';');
        }
        Check.due("all ten", Texts.halves(ten.toString()).moveHem(4, 190), 10);
        Check.due("nine", Texts.halves(ten.toString()).moveHem(4, 189), 9);
        Check.due("none to the west", Texts.halves(ten.toString()).moveHem(4, 170), 0);
        Check.due("none in another band", Texts.halves(ten.toString()).moveHem(5, 190), 0);
        Check.part("promise 52, the degrees that were left before");
        DateHem hem = Texts.halves("person a 4 100;");
        Check.due("none", hem.walk(0, 1, 359), 0);
        Check.due("all", hem.walk(0, 0, 0), 359);
        Check.due("none again", hem.walk(0, 0, 11), 0);
        hem.pass(1);
        Check.due("one", hem.walk(0, 0, 1), 1);
        Check.part("promise 51, the degrees to walk do not change");
        hem.step(0, 1);
        Check.due("one still", hem.degreesLeft(0), 1);
    }

    private static void hours() {
        Check.part("promise 53, 1 to 240 hours, the number of seams that tear in them");
        String twelve = "globe 30 30 30 30 30 30 30 30 30 30 30 30;";
        Check.due("all 12", Texts.globe(twelve).pass(240), 12);
        Check.due("none yet", Texts.globe(twelve).pass(119), 0);
        DateHem hem = Texts.globe(twelve);
        hem.pass(119);
        Check.due("all in one hour", hem.pass(1), 12);
        Check.due("none is left", hem.pass(240), 0);
        Check.due("ripped ones are not counted", Texts.globe(twelve + "rip 3;").pass(240), 11);
        Check.due("the clock", hem.clock(), 360);
    }

    private static String print(String text, int band) {
        DateHem hem = Texts.globe(text);
        Check.due("the number of bytes", hem.printBand(band), 37);
        return Texts.outputOf(hem);
    }

    private static void pictures() {
        Check.part("promise 55, the first that applies");
        String label = "label a 4 191;";
        String seam = "globe 193 167;";
        Check.due("nothing", print("globe 180 180;", 4).charAt(19), '.');
        Check.due("a label", print("globe 180 180;" + label, 4).charAt(19), 'a');
        Check.due("a seam", print(seam, 4).charAt(19), '+');
        Check.due("a seam and a label", print(seam + label, 4).charAt(19), '+');
        Check.due("a torn seam", print(seam + "rip 1;", 4).charAt(19), 'x');
        Check.due("a torn seam and a label", print(seam + "rip 1;label a 4 193;", 4).charAt(19), 'x');
        Check.due("a hem", print("globe 180 180;hem 4 195;", 4).charAt(19), 'H');
        Check.due("all", print(seam + "rip 1;hem 4 197;label a 4 193;", 4).charAt(19), 'H');
        Check.due("a sewn seam and a hem", print(seam + "hem 4 190;", 4).charAt(19), 'H');
        Check.due("a torn label", print("globe 200 160;label ab 4 197;rip 1;", 4).substring(19, 22),
                ".x.");
        Check.due("a line feed at the end", (int) print("globe 180 180;", 0).charAt(36), 10);
        Check.due("another band", print("globe 180 180;hem 4 195;" + "label b 4 10;", 5),
                "+.................H.................\n");
    }

    private static void groups() {
        Check.part("promise 55, the groups of 10 meridians");
        for (int group = 13; group < 24; group++) {
            for (int at : new int[] {10 * group, 10 * group + 9}) {
                String head = at == 180 ? "globe 180 180;" : "globe 180 180;hem 4 " + at + ";";
                Check.due("the hem at " + at, print(head, 4).indexOf('H'), group);
            }
        }
        for (int group = 1; group < 35; group++) {
            for (int at : new int[] {10 * group, 10 * group + 9}) {
                String picture = print("globe " + at + " " + (360 - at) + ";rip 1;hem 8 190;", 8);
                boolean hidden = group == 19;
                Check.due("the seam at " + at, picture.indexOf('x'), hidden ? -1 : group);
            }
        }
        for (int first : new int[] {8, 9, 10, 17, 18, 19, 97, 98, 347, 348, 349, 350, 357}) {
            String picture = print("globe 180 180;label a 4 " + first + ";", 4);
            Check.due("a label from " + first, picture.indexOf('a'), first < 10 ? 1 : first / 10);
            Check.due("its end", picture.lastIndexOf('a'), (first + 2) / 10);
        }
        Check.due("the last group", print("globe 180 180;label a 4 357;", 4).charAt(35), 'a');
        Check.due("the first group is the seam 0", print("globe 180 180;label a 4 7;", 4).charAt(0), '+');
    }

    private static void bytes() {
        Check.part("promise 56, a byte of the output");
        DateHem hem = new DateHem();
        for (int index : new int[] {-1, 0, 1, 36, Integer.MIN_VALUE, Integer.MAX_VALUE}) {
            Check.throwsIndex("none, " + index, () -> hem.outputByte(index));
        }
        hem.printBand(0);
        Check.due("the first", hem.outputByte(0), 43);
        Check.due("the last", hem.outputByte(36), 10);
        for (int index : new int[] {-1, 37, 38, Integer.MIN_VALUE, Integer.MAX_VALUE}) {
            Check.throwsIndex("not there, " + index, () -> hem.outputByte(index));
        }
        Check.part("promise 55, replaces the output");
        Texts.type(hem, "globe 100 260;rip 0;hem 0 190;").readText();
        Check.due("kept by a text", hem.outputByte(0), 43);
        hem.printBand(0);
        Check.due("replaced", Texts.outputOf(hem), "x.........+........H................\n");
    }
}
