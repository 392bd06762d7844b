/** The limits that section 6 names: tokens, statements and each error code with its offset. */
final class TextLimitTests {
    private static final String HEAD = "globe 180 180;";
    private static final String FULL = "globe 10 10 10 10 10 10 10 10 10 10 10 10";

    private TextLimitTests() {
    }

    static void run() {
        buffer();
        words();
        numbers();
        signsAndBlanks();
        noSpaceNeeded();
        endsTooEarly();
        codeTwo();
        codeThree();
        codeFour();
        codeFive();
        hemCodes();
        labelCodes();
        smallest();
        firstToken();
        order();
    }

    private static void error(String text, String want) {
        Check.due("\"" + text + "\"", Texts.descriptionError(text), want);
    }

    /** The offset is told from where the statements begin. */
    private static void statement(String text, int code, int offset) {
        error(HEAD + text, code + " at " + (HEAD.length() + offset));
    }

    private static void fine(String text) {
        error(HEAD + text, "fine");
    }

    private static void buffer() {
        Check.part("section 6, an input buffer of at most 600 bytes");
        String blanks = " ".repeat(600);
        fine(blanks.substring(HEAD.length()));
        String late = HEAD + blanks.substring(HEAD.length() + 1) + "{";
        error(late, "1 at 599");
        fine("rip 0;sew 0 1;".repeat(41) + "rip 0; rip1;");
        error(HEAD + "rip 0;sew 0 1;".repeat(41) + "rip0;rip0 ; ", "5 at 596");
        Check.throwsState("a byte more", () -> Texts.type(new DateHem(), blanks + " "));
    }

    private static void words() {
        Check.part("section 6, words of at most 8 letters");
        fine("town abcdefgh 0 0;");
        statement("town abcdefghi 0 0;", 1, 5);
        fine("person zyxwvuts 0 0;walk zyxwvuts east 1;");
        statement("person zyxwvutsr 0 0;", 1, 7);
        statement("walk zyxwvutsr east 1;", 1, 5);
        fine("label abcdefgh 4 0;");
        statement("label abcdefghi 4 0;", 1, 6);
        statement("townabcde 0 0;", 1, 0);
        statement("towna 0 0;", 1, 0);
        statement("tow n 0 0;", 1, 0);
        error("globeabc 180 180;", "1 at 0");
        error("globeabcd 180 180;", "1 at 0");
        error("glob 180 180;", "1 at 0");
        statement("person a 0 0;walk a easteast 1;", 1, 20);
        statement("person a 0 0;walk a easteaste 1;", 1, 20);
        statement("person a 0 0;walk a eas 1;", 1, 20);
        Check.part("section 6, a word or number that is too long where a sign is due, after others");
        statement("rip 0 abcdefghi", 1, 6);
        statement("rip 0 abcdefghi;", 1, 6);
        statement("rip 0 00001", 1, 6);
        statement("rip 0;rip 1 00001 thread 9;", 1, 12);
        DateHem twice = Texts.halves("");
        Check.throwsArgument("among the widths", () -> Texts.type(twice, "globe 180 180 00010").readText());
        Check.due("the error there", twice.errorCode() + " at " + twice.errorOffset(), "1 at 14");
        Check.part("section 6, a name is any word");
        fine("town town 0 0;town globe 0 0;person east 0 0;walk east east 1;label hem 0 0;");
    }

    private static void numbers() {
        Check.part("section 6, numbers of at most 4 digits");
        fine("thread 9999;");
        statement("thread 10000;", 1, 7);
        fine("thread 0000;");
        statement("thread 00000;", 1, 7);
        fine("town a 0008 0359;");
        statement("town a 00008 0;", 1, 7);
        statement("town a 0 00359;", 1, 9);
        error("globe 0180 0180;", "fine");
        error("globe 00180 180;", "1 at 6");
        error("globe 180 00180;", "1 at 10");
        error("globe 180180;", "1 at 6");
        statement("thread " + "9".repeat(500) + ";", 1, 7);
        statement("pass 4294967297;", 1, 5);
        statement("thread -1;", 1, 7);
        statement("thread +1;", 1, 7);
        statement("thread 1.0;", 1, 8);
    }

    private static void signsAndBlanks() {
        Check.part("section 6, bytes that belong to a token or are a blank");
        for (char sign = 0; sign < 256; sign++) {
            boolean blank = sign == 32 || sign == 10;
            boolean digit = sign >= '0' && sign <= '9';
            String due = sign == ';' ? "1 at 15" : digit ? "2 at 10" : "1 at 13";
            error("globe 180 180" + sign + " ;", blank ? "fine" : due);
            error(sign + "globe 180 180;", blank ? "fine" : "1 at 0");
            error(HEAD + sign, blank ? "fine" : "1 at 14");
        }
        Check.part("section 6, spaces and line feeds before, between and after tokens");
        error("\n \nglobe\n 180\n180 \n;\n\nrip \n0 ; \n ", "fine");
        error("glo be 180 180;", "1 at 0");
        error("globe 18 10 180;", "3 at 15");
        error("globe 180\n180\n;\n;", "1 at 16");
        Check.part("section 6, the single characters ; ( and )");
        statement("(", 1, 0);
        statement(")", 1, 0);
        statement(";", 1, 0);
        statement("rip (0);", 1, 4);
        statement("rip 0);", 1, 5);
        statement("rip 0;;", 1, 6);
        statement("repeat 2 (rip 0;);", 1, 0);
    }

    private static void noSpaceNeeded() {
        Check.part("section 6, adjacent words and numbers need no space between them");
        error("globe180 180;town a1 2;person b3 4;walk b east5;hem4 181;sew0 1;rip0;thread7;pass8;",
                "fine");
        statement("town a1 2town b1 2;", 1, 9);
        statement("town a1b2;", 1, 7);
        statement("pass2x;", 1, 5);
        Check.due("what it did", Texts.halves("person b3 4;walk b west5;pass1;").meridianOf(0), 359);
    }

    private static void endsTooEarly() {
        Check.part("section 6, code 1 at the length of a text that ends too early");
        String[] tokens = {"globe", " 180", " 180", ";", "town", " a", " 1", " 2", ";", "person", " b",
            " 3", " 4", ";", "label", " c", " 5", " 6", ";", "hem", " 7", " 190", ";", "sew", " 1",
            " 2", ";", "rip", " 1", ";", "walk", " b", " east", " 3", ";", "thread", " 4", ";",
            "pass", " 5", ";"};
        String text = "";
        for (String token : tokens) {
            error(text, text.endsWith(";") ? "fine" : "1 at " + text.length());
            text += token;
        }
        error(text, "fine");
        error("  \n", "1 at 3");
        error("globe 180 180  ", "1 at 15");
        statement("rip 0 \n ", 1, 8);
    }

    private static void codeTwo() {
        Check.part("section 6, code 2");
        error("globe 9 350;", "2 at 6");
        error("globe 10 350;", "fine");
        error("globe 350 10;", "fine");
        error("globe 351 10;", "2 at 6");
        error("globe 180 180 10;", "2 at 14");
        error("globe 180 170 10;", "fine");
        error("globe 180 170 11;", "2 at 14");
        String[] bands = {"town a ", "person a ", "label a ", "hem "};
        for (String words : bands) {
            statement(words + "9 200;", 2, words.length());
            statement(words + "8 360;", 2, words.length() + 2);
            fine(words + "8 200;");
            fine(words + "0 200;");
        }
        fine("town a 0 0;town b 8 359;person c 0 0;person d 8 359;label e 4 0;label f 4 357;");
        statement("sew 2 1;", 2, 4);
        fine("sew 1 1;");
        fine("sew 0 79;");
        fine("rip 0;sew 0 99;");
        statement("sew 0 0;", 2, 6);
        statement("rip 0;sew 0 100;", 2, 12);
        statement("rip 2;", 2, 4);
        fine("rip 1;");
        error("globe 30 30 30 30 30 30 30 30 30 30 30 30;rip 11;sew 11 1;", "fine");
        error("globe 30 30 30 30 30 30 30 30 30 30 30 30;rip 12;", "2 at 46");
        fine("person a 0 0;walk a east 0;walk a west 359;");
        statement("person a 0 0;walk a west 360;", 2, 25);
        fine("thread 0;");
        fine("thread 9999;");
        fine("pass 1;pass 240;");
        statement("pass 0;", 2, 5);
        statement("pass 241;", 2, 5);
    }

    private static void codeThree() {
        Check.part("section 6, code 3");
        error("globe 350;", "3 at 9");
        error("globe 180 179;", "3 at 13");
        error("globe 180 179 ;", "3 at 14");
        error("globe 180 179", "1 at 13");
        error(FULL + ";", "3 at 41");
        statement("town a 0 0;town a 1 1;", 3, 16);
        statement("town a 0 0;person a 1 1;", 3, 18);
        statement("person a 0 0;town a 1 1;", 3, 18);
        statement("person abcdefgh 0 0;person abcdefgh 1 1;", 3, 27);
        fine("person abcdefgh 0 0;person abcdefg 1 1;town a 0 0;town aa 0 0;");
        fine("town a 0 0;label a 0 0;label a 1 0;");
    }

    private static void codeFour() {
        Check.part("section 6, code 4");
        statement("walk a east 1;", 4, 5);
        statement("person a 0 0;walk b east 1;", 4, 18);
        statement("person ab 0 0;walk a east 1;", 4, 19);
        statement("label a 0 0;walk a east 1;", 4, 17);
        statement("walk walk", 4, 5);
        StringBuilder nine = new StringBuilder();
        for (char letter = 'a'; letter < 'j'; letter++) {
            nine.append("town ").append(letter).append(" 0 0;");
        }
        fine(nine + "town j 0 0;");
        fine(nine + "person j 0 0;");
        statement(nine + "person j 0 0;town k 0 0;", 4, 9 * 11 + 13);
        statement(nine + "town j 0 0;person k 0 0;", 4, 10 * 11);
        statement(nine + "town j 0 0;town", 4, 10 * 11);
        fine(nine + "town j 0 0;label k 0 0;");
        String seven = "label a 4 0;label a 4 3;label a 4 6;label a 4 9;label a 3 0;label a 2 0;"
                + "label a 1 0;";
        fine(seven + "label a 0 0;");
        statement(seven + "label a 0 0;label a 8 0;", 4, seven.length() + 12);
        statement(seven + "label a 0 0;label", 4, seven.length() + 12);
        fine(seven + "label a 0 0;town a 8 0;");
        error(FULL.substring(0, 38) + " 250;", "fine");
        error(FULL + " 10;", "4 at 42");
        error(FULL + " 240", "4 at 42");
    }

    private static void codeFive() {
        Check.part("section 6, code 5");
        fine("sew 1 79;");
        statement("sew 1 80;", 5, 6);
        statement("sew 1 99;", 5, 6);
        fine("rip 1;sew 1 99;");
        statement("rip 1;sew 1 1;sew 1 99;", 5, 20);
        fine("thread 5;sew 1 5;");
        statement("thread 5;sew 1 6;", 5, 15);
        statement("thread 0;sew 1 1;", 5, 15);
        statement("rip 1;rip 1;", 5, 10);
        statement("pass 24;rip 1;", 5, 12);
        fine("rip 1;sew 1 1;rip 1;");
        statement("town a 0 0;walk a east 1;", 5, 16);
        statement("town a 0 0;walk a", 5, 16);
    }

    private static void hemCodes() {
        Check.part("section 6, code 5, hemObstacle()");
        statement("hem 4 180;", 5, 6);
        statement("hem 4 0;", 5, 6);
        statement("hem 4 241;", 5, 6);
        statement("hem 4 119;", 5, 6);
        fine("hem 4 240;hem 4 120;");
        statement("label a 4 200;hem 4 201;", 5, 20);
        statement("label a 4 200;hem 4 202;", 5, 20);
        fine("label a 4 200;hem 4 200;hem 4 203;");
        statement("thread 1;hem 4 186;", 5, 15);
        fine("thread 1;hem 4 185;");
        fine("thread 1;hem 4 175;");
        statement("thread 0;hem 4 181;", 5, 15);
    }

    private static void labelCodes() {
        Check.part("section 6, code 5, labelObstacle()");
        fine("label a 4 357;");
        statement("label a 4 358;", 5, 10);
        fine("label abcdefgh 8 304;");
        statement("label abcdefgh 8 305;", 5, 17);
        statement("label a 4 0;label b 4 2;", 5, 22);
        fine("label a 4 0;label b 4 3;");
        statement("label a 4 178;", 5, 10);
        fine("label a 4 177;label b 4 180;");
        statement("hem 4 200;rip 1;label a 4 179;", 5, 26);
        fine("hem 4 200;rip 1;label a 4 177;label b 4 180;");
    }

    private static void smallest() {
        Check.part("section 6, the smallest of several codes at one token");
        error(FULL + " 9;", "2 at 42");
        error(FULL + " 351;", "2 at 42");
        error(FULL + " 241;", "2 at 42");
        error(FULL + " 00010;", "1 at 42");
        error(FULL + " {", "1 at 42");
        statement("sew 1 100;", 2, 6);
        statement("thread 5;sew 1 0;", 2, 15);
        statement("label a 4 360;", 2, 10);
        statement("hem 4 360;", 2, 6);
        statement("rip 1;rip 2;", 2, 10);
        statement("walk abcdefghi", 1, 5);
        statement("walk 9999 east 1;", 1, 5);
        String ten = "town a 0 0;town b 0 0;town c 0 0;town d 0 0;town e 0 0;town f 0 0;town g 0 0;"
                + "town h 0 0;town i 0 0;town j 0 0";
        statement(ten + " town", 1, 110);
        statement(ten + ";town", 4, 110);
        statement(ten + ";rip town", 1, 114);
        statement("label a 4 358", 5, 10);
        statement("town a 0 0;town abcdefghi 0 0;", 1, 16);
    }

    private static void firstToken() {
        Check.part("section 6, parsing stops at the first erroneous token");
        error("globe 9 400;", "2 at 6");
        statement("rip 2; rip 3;", 2, 4);
        statement("town a 9 360;", 2, 7);
        statement("rip 1 1; {", 1, 6);
        statement("rip 0; walk x east 1; {", 4, 12);
        error("globe 180 179; rip 2;", "3 at 13");
    }

    private static void order() {
        Check.part("section 6, statements take effect in the order in which they are read");
        Check.due("hem, then person", Texts.halves("hem 4 200;person a 4 190;").dayOf(0), 0);
        Check.due("person, then hem", Texts.halves("person a 4 190;hem 4 200;").dayOf(0), 0);
        Check.due("thread, then sew", Texts.halves("thread 9;sew 0 4;").thread(), 5);
        Check.due("sew, then thread", Texts.halves("sew 0 4;thread 9;").thread(), 9);
        Check.due("rip, then label", Texts.descriptionError(
                "globe 100 260;rip 1;label a 4 98;"), "5 at 30");
        Check.due("label, then rip", Texts.globe("globe 100 260;label a 4 98;rip 1;").isLabelTorn(0),
                true);
        Check.due("walk, then pass", Texts.halves("person a 4 0;walk a east 9;pass 1;").meridianOf(0), 9);
        Check.due("pass, then walk", Texts.halves("person a 4 0;pass 1;walk a east 9;").meridianOf(0), 0);
    }
}
