/** Promise 4 with section 6: descriptions, their effects and their errors. */
final class DescriptionTests {
    private static final String HEAD = "globe 180 180;";

    private DescriptionTests() {
    }

    static void run() {
        Check.part("promise 4, effects");
        effects();
        replaces();
        changesNothingOnError();
        Check.part("promise 4, code 1");
        tokens();
        grammar();
        Check.part("promise 4, code 2");
        ranges();
        Check.part("promise 4, codes 3 and 4");
        widths();
        namesAndRoom();
        Check.part("promise 4, code 5");
        hindrances();
    }

    private static void error(String text, String want) {
        Check.due("\"" + text + "\"", Texts.descriptionError(text), want);
    }

    private static void statement(String text, String want) {
        error(HEAD + text, want);
    }

    private static void effects() {
        DateHem hem = Texts.type(new DateHem(), "globe 100 60 200; town oslo 2 11; person ann 4 20;"
                + " label abc 4 101; hem 4 200; sew 1 5; rip 2; thread 77; walk ann west 25; pass 2;");
        Check.due("readText()", hem.readText(), 2);
        Check.due("state", Texts.stateOf(hem), "clock 2 thread 77 gore 0+100*20 gore 100+60*25"
                + " gore 160+200*0 hem 180 hem 180 hem 180 hem 180 hem 200 hem 180 hem 180 hem 180"
                + " hem 180 spot oslofalse 2 11 0 0 0 11 spot anntrue 4 0 0 5 0 355"
                + " label 4 101-109false");
        Check.due("east", Texts.halves("person a 0 5; walk a east 12; pass 1;").meridianOf(0), 15);
        Check.due("order of statements",
                Texts.halves("person a 0 5; pass 24; person b 0 5;").dayOf(1), 1);
        Check.due("thread before hem", Texts.halves("thread 4; hem 4 200;").thread(), 0);
        Check.due("rip gives thread", Texts.halves("rip 0;").thread(), 510);
        Check.due("sew takes thread", Texts.halves("sew 0 79;").thread(), 421);
        Check.due("rip tears labels", Texts.halves("hem 0 200; label a 0 177; rip 1;").isLabelTorn(0), true);
        Check.due("walk anew", Texts.halves("person a 0 5; walk a east 9; walk a west 3;")
                .meridianAfter(0, 1), 2);
        Check.due("words close to numbers", Texts.descriptionError(
                "globe180 180;town a0 0;label b0 0;hem4 181;sew0 1;rip0;thread1;pass1;"), "fine");
        Check.due("blanks and line feeds",
                Texts.descriptionError(" \n globe\n180\n 180 ;\n town\na 0\n0; \n"), "fine");
        Check.due("keywords as names", Texts.halves("person walk 0 0; walk walk east 1;"
                + " town globe 0 0; town town 0 0; label label 0 0;").spotCount(), 3);
        Check.due("leading zeros", Texts.halves("pass 0010;").clock(), 10);
        String longest = "globe 30 30 30 30 30 30 30 30 30 30 30 30;";
        Check.due("12 gores", Texts.globe(longest).goreCount(), 12);
        String padded = HEAD + " ".repeat(600 - HEAD.length());
        Check.due("600 bytes", Texts.descriptionError(padded), "fine");
        Check.due("600 bytes, no end", Texts.descriptionError(padded.replace(';', ' ')), "1 at 600");
    }

    private static void replaces() {
        DateHem hem = Texts.halves("person a 0 9; label b 0 0; hem 3 200; rip 0; thread 9; pass 9;");
        hem.printBand(0);
        hem.saveState();
        hem.pass(1);
        String picture = Texts.outputOf(hem);
        Check.due("readText()", Texts.type(hem, HEAD).readText(), 0);
        Check.due("state", Texts.stateOf(hem), Texts.stateOf(new DateHem()));
        Check.due("output is kept", Texts.outputOf(hem), picture);
        Check.throwsState("undo()", () -> hem.undo());
        Check.due("saved state is kept", hem.restoreState(), 9);
        Check.due("spots of it", hem.spotCount(), 1);
    }

    private static void changesNothingOnError() {
        DateHem hem = Texts.halves("person a 0 9; label b 0 0; hem 3 200; walk a west 9;");
        hem.printBand(3);
        hem.pass(7);
        String state = Texts.stateOf(hem);
        String picture = Texts.outputOf(hem);
        String wrong = "globe 100 260; town a 0 0; town b 1 1; label c 0 5; hem 3 190; rip 1; pass 9; z";
        Check.throwsArgument("readText()", () -> Texts.type(hem, wrong).readText());
        Check.due("state", Texts.stateOf(hem), state);
        Check.due("output", Texts.outputOf(hem), picture);
        Check.due("undo()", hem.undo(), 0);
        Check.due("clock()", hem.clock(), 0);
    }

    private static void tokens() {
        error("", "1 at 0");
        error(" \n ", "1 at 3");
        error("globe", "1 at 5");
        error("globe ", "1 at 6");
        error("Globe 180 180;", "1 at 0");
        error("globes 180 180;", "1 at 0");
        error("globe 180, 180;", "1 at 9");
        error("globe 180\t180;", "1 at 9");
        error("globe 180 180\u00ff;", "1 at 13");
        error("globe 180 180\0;", "1 at 13");
        error("globe -10 180;", "1 at 6");
        error("globe 00180 180;", "1 at 6");
        error("globe 0180 0180;", "fine");
        statement("town abcdefghi 0 0;", "1 at 19");
        statement("town abcdefgh 0 0;", "fine");
        statement("town abcDe 0 0;", "1 at 22");
        statement("town a`b 0 0;", "1 at 20");
        statement("town a{ 0 0;", "1 at 20");
        statement("town az 0 0;", "fine");
        statement("town a 00000 0;", "1 at 21");
        statement("town a 0/ 0;", "1 at 22");
        statement("town a 0: 0;", "1 at 22");
        statement("abcdefghijklmnop 0;", "1 at 14");
        statement("{", "1 at 14");
        statement(")", "1 at 14");
    }

    private static void grammar() {
        error("globe;", "1 at 5");
        error("globe 180 180", "1 at 13");
        error("globe 180 180 town", "1 at 14");
        error("180 180;", "1 at 0");
        statement(";", "1 at 14");
        statement("5;", "1 at 14");
        statement("globe 180 180;", "1 at 14");
        statement("step 0 0;", "1 at 14");
        statement("repeat 1 ();", "1 at 14");
        statement("town", "1 at 18");
        statement("town 5 5 5;", "1 at 19");
        statement("town a;", "1 at 20");
        statement("town a b 0;", "1 at 21");
        statement("town a 0;", "1 at 22");
        statement("town a 0 0", "1 at 24");
        statement("town a 0 0 0;", "1 at 25");
        statement("town a 0 0)", "1 at 24");
        statement("person a 0 ;", "1 at 25");
        statement("label 1 0 0;", "1 at 20");
        statement("label a x 0;", "1 at 22");
        statement("label a 0 x;", "1 at 24");
        statement("hem a 0;", "1 at 18");
        statement("hem 4;", "1 at 19");
        statement("hem 4 181 1;", "1 at 24");
        statement("sew x 1;", "1 at 18");
        statement("sew 1;", "1 at 19");
        statement("sew 1 1 1;", "1 at 22");
        statement("rip x;", "1 at 18");
        statement("rip 1 1;", "1 at 20");
        statement("thread x;", "1 at 21");
        statement("pass ;", "1 at 19");
        statement("pass 1 1;", "1 at 21");
        String person = "person a 0 0;";
        statement(person + "walk 0 east 1;", "1 at 32");
        statement(person + "walk a up 1;", "1 at 34");
        statement(person + "walk a 0 1;", "1 at 34");
        statement(person + "walk a east;", "1 at 38");
        statement(person + "walk a west x;", "1 at 39");
        statement(person + "walk a", "1 at 33");
    }

    private static void ranges() {
        error("globe 9 351;", "2 at 6");
        error("globe 10 350;", "fine");
        error("globe 350 10;", "fine");
        error("globe 351 9;", "2 at 6");
        error("globe 10 351;", "2 at 9");
        error("globe 180 181;", "2 at 10");
        error("globe 180 180 10;", "2 at 14");
        error("globe 180 180 9;", "2 at 14");
        error("globe 9999", "2 at 6");
        error("globe 0", "2 at 6");
        statement("town a 9 0;", "2 at 21");
        statement("town a 8 0;", "fine");
        statement("town a 0 360;", "2 at 23");
        statement("town a 0 359;", "fine");
        statement("person a 9 0;", "2 at 23");
        statement("person a 8 360;", "2 at 25");
        statement("label a 9 0;", "2 at 22");
        statement("label a 4 360;", "2 at 24");
        statement("label a 4 359;", "5 at 24");
        statement("hem 0 359;", "5 at 20");
        statement("hem 9 0;", "2 at 18");
        statement("hem 8 360;", "2 at 20");
        statement("sew 2 1;", "2 at 18");
        statement("sew 1 0;", "2 at 20");
        statement("sew 1 100;", "2 at 20");
        statement("sew 1 1;", "fine");
        statement("sew 1 79;", "fine");
        statement("rip 0;sew 0 99;", "fine");
        statement("rip 0;sew 0 100;", "2 at 26");
        statement("rip 2;", "2 at 18");
        statement("rip 1;", "fine");
        error("globe 100 100 160; rip 2;", "fine");
        error("globe 100 100 160; rip 3;", "2 at 23");
        statement("thread 0;", "fine");
        statement("thread 9999;", "fine");
        statement("thread 10000;", "1 at 21");
        statement("pass 0;", "2 at 19");
        statement("pass 1;", "fine");
        statement("pass 240;", "fine");
        statement("pass 241;", "2 at 19");
        statement("person a 0 0; walk a east 359; walk a west 0;", "fine");
        statement("person a 0 0; walk a east 360;", "2 at 40");
    }

    private static void widths() {
        error("globe 180 179;", "3 at 13");
        error("globe 350;", "3 at 9");
        error("globe 10 10 ;", "3 at 12");
        String twelve = "globe 10 10 10 10 10 10 10 10 10 10 10 10";
        error(twelve + ";", "3 at 41");
        error(twelve + " 10;", "4 at 42");
        error(twelve + " 240;", "4 at 42");
        error(twelve + " 9;", "2 at 42");
        error(twelve + " 241;", "2 at 42");
        error(twelve + " 00010;", "1 at 42");
        error(twelve + " x;", "1 at 42");
        error("globe 10 10 10 10 10 10 10 10 10 10 10 250;", "fine");
        error("globe 10 10 10 10 10 10 10 10 10 10 10 250 10;", "2 at 43");
    }

    private static void namesAndRoom() {
        statement("town a 0 0; town a 0 0;", "3 at 31");
        statement("town a 0 0; person a 9 0;", "3 at 33");
        statement("town a 0 0; town ab 0 0; label a 0 0; label a 1 0;", "fine");
        statement("town ab 0 0; town b 0 0; town a 0 0; town ba 0 0;", "fine");
        StringBuilder ten = new StringBuilder(HEAD);
        for (char letter = 'a'; letter < 'k'; letter++) {
            ten.append(letter % 2 == 0 ? "town " : "person ").append(letter).append(" 0 0;");
        }
        int end = ten.length();
        error(ten.toString(), "fine");
        error(ten + "town k 0 0;", "4 at " + end);
        error(ten + "person a 0 0;", "4 at " + end);
        error(ten + "label a 0 0;", "fine");
        StringBuilder eight = new StringBuilder(HEAD);
        for (int band = 0; band < 8; band++) {
            eight.append("label w ").append(band).append(" 0;");
        }
        error(eight.toString(), "fine");
        error(eight + "label w 8 0;", "4 at " + eight.length());
        error(eight + "town w 8 0;", "fine");
        String torn = eight.toString().replace("label w 7 0;", "hem 7 200; label w 7 177; rip 1;");
        error(torn + "label w 8 0;", "4 at " + torn.length());
        statement("walk a east 5;", "4 at 19");
        statement("person ab 0 0; walk a east 5;", "4 at 34");
        statement("label a 0 0; walk a east 5;", "4 at 32");
    }

    private static void hindrances() {
        statement("label abcdefgh 0 304;", "fine");
        statement("label abcdefgh 0 305;", "5 at 31");
        statement("label a 4 0; label a 4 2;", "5 at 37");
        statement("label a 4 0; label a 4 3;", "fine");
        statement("label a 4 178;", "5 at 24");
        statement("label a 4 177;", "fine");
        statement("hem 4 200; rip 1; label a 4 178;", "5 at 42");
        statement("hem 4 180;", "5 at 20");
        statement("hem 4 0;", "5 at 20");
        statement("hem 4 241;", "5 at 20");
        statement("hem 4 240;", "fine");
        statement("label a 4 184; hem 4 185;", "5 at 35");
        statement("thread 1; hem 4 186;", "5 at 30");
        statement("thread 1; hem 4 185;", "fine");
        statement("sew 1 80;", "5 at 20");
        statement("thread 9; sew 1 10;", "5 at 30");
        statement("thread 9; sew 1 9;", "fine");
        statement("rip 1; rip 1;", "5 at 25");
        statement("rip 1; sew 1 1; rip 1;", "fine");
        statement("town a 0 0; walk a east 5;", "5 at 31");
        statement("town a 0 0; walk a", "5 at 31");
        statement("sew 1 100; ", "2 at 20");
    }
}
