/** Promises 45 to 53: the changes. */
final class ChangeTests {
    private ChangeTests() {
    }

    static void run() {
        Check.part("promise 45");
        spots(false);
        Check.part("promise 46");
        spots(true);
        diariesAtFirst();
        Check.part("promise 47");
        labels();
        Check.part("promise 48");
        hems();
        hemsAndDiaries();
        Check.part("promise 49");
        sewing();
        Check.part("promise 50");
        ripping();
        Check.part("promise 51");
        steps();
        diariesOfSteps();
        Check.part("promise 52");
        walks();
        Check.part("promise 53");
        hours();
        seamsInHours();
        walkersInHours();
    }

    private static int add(DateHem hem, boolean travels, String name, int band, int meridian) {
        Texts.type(hem, name);
        return travels ? hem.addTraveller(band, meridian) : hem.addTown(band, meridian);
    }

    private static void spots(boolean travels) {
        DateHem hem = Texts.halves("person a 0 0; town b 0 0;");
        Check.due("number", add(hem, travels, "abcdefgh", 8, 359), 2);
        Check.due("kind", hem.isTraveller(2), travels);
        Check.due("band", hem.bandOf(2), 8);
        Check.due("meridian", hem.meridianOf(2), 359);
        Check.due("name", Texts.nameOf(hem, 2), "abcdefgh");
        Check.due("emptied", Texts.inputLength(hem), 0);
        Check.throwsState("no name", () -> add(hem, travels, "", 0, 0));
        Check.throwsState("name of 9", () -> add(hem, travels, "abcdefghi", 0, 0));
        Check.due("input is kept", Texts.inputLength(hem), 9);
        Check.throwsState("no letters", () -> add(hem, travels, "a1", 0, 0));
        Check.throwsState("traveller's name", () -> add(hem, travels, "a", 0, 0));
        Check.throwsState("town's name", () -> add(hem, travels, "b", 0, 0));
        Check.throwsArgument("band 9", () -> add(hem, travels, "c", 9, 0));
        Check.throwsArgument("band -1", () -> add(hem, travels, "c", -1, 0));
        Check.throwsArgument("meridian 360", () -> add(hem, travels, "c", 0, 360));
        Check.throwsArgument("meridian -1", () -> add(hem, travels, "c", 0, -1));
        Check.throwsArgument("argument before state", () -> add(hem, travels, "", 9, 0));
        Check.due("nothing changed", hem.spotCount(), 3);
        for (int n = 3; n < 10; n++) {
            Check.due("spot " + n, add(hem, travels, "" + (char) ('a' + n), 0, 0), n);
        }
        Check.throwsState("an 11th", () -> add(hem, travels, "z", 0, 0));
        Check.due("input is kept", Texts.inputLength(hem), 1);
        Check.due("undo()", hem.undo(), 5);
        Check.due("one less", hem.spotCount(), 9);
        Check.due("input after undo()", Texts.inputLength(hem), 1);
        Check.due("added again", add(hem, travels, "j", 0, 0), 9);
        inAnothersPlace(travels);
    }

    /** A spot that comes where another one was has nothing of it. */
    private static void inAnothersPlace(boolean travels) {
        DateHem hem = new DateHem();
        add(hem, true, "a", 0, 179);
        hem.walk(0, 0, 5);
        hem.pass(1);
        hem.walk(0, 1, 9);
        Check.due("crossings of the first", hem.crossingsOf(0), 1);
        hem.meridianAfter(0, 1);
        hem.undo();
        hem.undo();
        hem.undo();
        hem.undo();
        hem.step(add(hem, true, "a", 0, 179), 0);
        hem.walk(0, 0, 7);
        hem.meridianAfter(0, 0);
        Texts.type(hem, "globe 180 180;").readText();
        add(hem, travels, "z", 0, 350);
        Check.due("no degrees at first", hem.degreesLeft(0), 0);
        Check.due("no crossings at first", hem.crossingsOf(0), 0);
        Check.due("day", hem.dayOf(0), -1);
        Check.due("told", told(hem, travels), "0 0");
    }

    /** What a described spot has of the one that was foretold in its place before. */
    private static String told(DateHem hem, boolean travels) {
        hem.undo();
        hem.step(add(hem, true, "a", 0, 179), 0);
        hem.walk(0, 0, 7);
        hem.meridianAfter(0, 0);
        Texts.type(hem, "globe 180 180;" + (travels ? "person" : "town") + " z 0 350;").readText();
        return hem.degreesLeft(0) + " " + hem.crossingsOf(0);
    }

    private static void diariesAtFirst() {
        DateHem hem = new DateHem();
        hem.pass(30);
        add(hem, true, "a", 4, 0);
        add(hem, true, "b", 4, 180);
        add(hem, true, "c", 4, 270);
        add(hem, true, "d", 4, 179);
        Check.due("a", hem.dayOf(0), 1);
        Check.due("b", hem.dayOf(1), 0);
        Check.due("c", hem.dayOf(2), 1);
        Check.due("d", hem.dayOf(3), 1);
    }

    private static int addLabel(DateHem hem, String word, int band, int meridian) {
        return Texts.type(hem, word).addLabel(band, meridian);
    }

    private static void labels() {
        DateHem hem = new DateHem();
        Check.due("the first", addLabel(hem, "abc", 4, 0), 0);
        Check.due("emptied", Texts.inputLength(hem), 0);
        Check.due("band", hem.labelBand(0), 4);
        Check.due("last", hem.labelLast(0), 8);
        Check.throwsState("over it", () -> addLabel(hem, "abc", 4, 8));
        Check.due("input is kept", Texts.inputLength(hem), 3);
        Check.throwsState("no word", () -> addLabel(hem, "", 4, 50));
        Check.throwsState("over the hem", () -> addLabel(hem, "a", 4, 179));
        Check.throwsState("beyond 359", () -> addLabel(hem, "a", 4, 358));
        Check.throwsArgument("band 9", () -> addLabel(hem, "", 9, 0));
        Check.throwsArgument("band -1", () -> addLabel(hem, "a", -1, 0));
        Check.throwsArgument("meridian 360", () -> addLabel(hem, "a", 0, 360));
        Check.throwsArgument("meridian -1", () -> addLabel(hem, "a", 0, -1));
        Check.due("nothing changed", hem.labelCount(), 1);
        Check.due("the same word", addLabel(hem, "abc", 4, 9), 1);
        for (int n = 2; n < 8; n++) {
            Check.due("label " + n, addLabel(hem, "a", n, 50), n);
        }
        Check.throwsState("a 9th", () -> addLabel(hem, "a", 8, 50));
        Check.due("no obstacle to it", hem.labelObstacle(8, 50), 0);
        hem.undo();
        Check.due("after undo()", addLabel(hem, "ab", 8, 50), 7);
        Check.due("the new one", hem.labelLast(7), 63);
        DateHem torn = Texts.globe("globe 100 260; label a 4 98; rip 1;");
        Texts.type(torn, "globe 180 180;").readText();
        addLabel(torn, "a", 4, 98);
        Check.due("in a torn one's place", torn.isLabelTorn(0), false);
        Texts.type(torn, "globe 100 260; label a 4 98; rip 1;").readText();
        Texts.type(torn, "globe 180 180; label a 4 98;").readText();
        Check.due("told in a torn one's place", torn.isLabelTorn(0), false);
    }

    private static void hems() {
        DateHem hem = new DateHem();
        Check.due("moveHem(4, 200)", hem.moveHem(4, 200), 0);
        Check.due("hemAt(4)", hem.hemAt(4), 200);
        Check.due("thread for 20", hem.thread(), 496);
        hem.moveHem(4, 201);
        Check.due("thread for 1", hem.thread(), 495);
        hem.moveHem(4, 195);
        Check.due("thread for 6", hem.thread(), 493);
        Check.throwsState("there", () -> hem.moveHem(4, 195));
        Check.throwsState("too far", () -> hem.moveHem(4, 241));
        Check.throwsState("0", () -> hem.moveHem(4, 0));
        Check.throwsArgument("band 9", () -> hem.moveHem(9, 200));
        Check.throwsArgument("band -1", () -> hem.moveHem(-1, 200));
        Check.throwsArgument("meridian 360", () -> hem.moveHem(4, 360));
        Check.throwsArgument("meridian -1", () -> hem.moveHem(4, -1));
        Check.due("nothing changed", hem.thread(), 493);
        DateHem all = Texts.halves("thread 2;");
        all.moveHem(0, 190);
        Check.due("all thread", all.thread(), 0);
        Check.throwsState("without thread", () -> all.moveHem(0, 191));
    }

    private static void hemsAndDiaries() {
        DateHem hem = Texts.halves("person a 4 179; person b 4 180; person c 4 189; person d 4 190;"
                + " person e 5 185; town f 4 185;");
        Check.due("east", hem.moveHem(4, 190), 2);
        String days = "";
        for (int spot = 0; spot < 6; spot++) {
            days += hem.dayOf(spot) + " ";
        }
        Check.due("days", days, "0 0 0 -1 -1 0 ");
        Check.due("west", hem.moveHem(4, 180), 2);
        Check.due("b", hem.dayOf(1), -1);
        Check.due("c", hem.dayOf(2), -1);
        Check.due("d", hem.dayOf(3), -1);
        Check.due("west again", hem.moveHem(4, 179), 1);
        Check.due("a", hem.dayOf(0), -1);
        Check.due("crossings", hem.crossingsOf(0), 0);
    }

    private static void sewing() {
        DateHem hem = new DateHem();
        Check.due("sew(0, 1)", hem.sew(0, 1), 21);
        Check.due("sew(0, 78)", hem.sew(0, 78), 99);
        Check.throwsState("100", () -> hem.sew(0, 1));
        Check.due("thread()", hem.thread(), 421);
        hem.rip(1);
        Check.due("a torn one", hem.sew(1, 99), 99);
        Check.throwsIndex("seam 2", () -> hem.sew(2, 1));
        Check.throwsIndex("seam -1", () -> hem.sew(-1, 0));
        Check.throwsIndex("index before argument", () -> hem.sew(2, 0));
        Check.throwsArgument("stitches 0", () -> hem.sew(0, 0));
        Check.throwsArgument("stitches 100", () -> hem.sew(0, 100));
        Check.throwsArgument("least", () -> hem.sew(0, Integer.MIN_VALUE));
        Check.throwsArgument("greatest", () -> hem.sew(0, Integer.MAX_VALUE));
        DateHem poor = Texts.halves("thread 5;");
        Check.throwsState("6 of 5", () -> poor.sew(0, 6));
        Check.due("5 of 5", poor.sew(0, 5), 25);
        Check.throwsState("1 of 0", () -> poor.sew(0, 1));
        Check.due("thread()", poor.thread(), 0);
        DateHem stop = Texts.halves("hem 4 200; label a 4 178; rip 1;");
        stop.sew(1, 1);
        Check.due("a torn label stays so", stop.isLabelTorn(0), true);
    }

    private static void ripping() {
        DateHem hem = Texts.globe("globe 100 260; label a 4 98; label b 0 97; label c 4 200; sew 1 7;");
        Check.due("rip(1)", hem.rip(1), 2);
        Check.due("stitchesOf(1)", hem.stitchesOf(1), 0);
        Check.due("thread()", hem.thread(), 506);
        Check.due("a", hem.isLabelTorn(0), true);
        Check.due("b", hem.isLabelTorn(1), true);
        Check.due("c", hem.isLabelTorn(2), false);
        Check.throwsState("torn", () -> hem.rip(1));
        Check.throwsIndex("seam 2", () -> hem.rip(2));
        Check.throwsIndex("seam -1", () -> hem.rip(-1));
        Check.due("nothing changed", hem.thread(), 506);
        hem.sew(1, 1);
        Check.due("once more", hem.rip(1), 0);
        Check.due("half of 1", hem.thread(), 505);
    }

    private static void steps() {
        DateHem hem = Texts.globe("globe 100 260; person p 4 358; town t 4 5; walk p west 7;");
        Check.due("to 359", hem.step(0, 0), 359);
        Check.due("to 0", hem.step(0, 0), 0);
        Check.due("to 1", hem.step(0, 0), 1);
        Check.due("back to 0", hem.step(0, 1), 0);
        Check.due("back to 359", hem.step(0, 1), 359);
        Check.due("degrees", hem.degreesLeft(0), 7);
        hem.pass(1);
        Check.due("direction", hem.meridianOf(0), 352);
        Check.throwsIndex("spot 2", () -> hem.step(2, 0));
        Check.throwsIndex("spot -1", () -> hem.step(-1, 2));
        Check.throwsArgument("direction 2", () -> hem.step(0, 2));
        Check.throwsArgument("direction -1", () -> hem.step(1, -1));
        Check.throwsState("town", () -> hem.step(1, 0));
        DateHem torn = Texts.globe("globe 100 260; person p 4 99; rip 1;");
        Check.throwsState("torn seam", () -> torn.step(0, 0));
        Check.due("there still", torn.meridianOf(0), 99);
        Check.due("the other way", torn.step(0, 1), 98);
    }

    private static void diariesOfSteps() {
        DateHem hem = Texts.halves("person p 4 359; person q 4 179; person r 3 187; hem 3 188;");
        Check.due("at 359", hem.dayOf(0), -1);
        hem.step(0, 0);
        Check.due("over the meridian 0", hem.dayOf(0), 0);
        hem.step(0, 1);
        Check.due("and back", hem.dayOf(0), -1);
        Check.due("at 179", hem.dayOf(1), 0);
        hem.step(1, 0);
        Check.due("over the hem", hem.dayOf(1), -1);
        hem.step(1, 1);
        Check.due("and back", hem.dayOf(1), 0);
        hem.step(2, 0);
        Check.due("over the hem within an hour", hem.dayOf(2), -1);
        hem.step(2, 1);
        Check.due("and back", hem.dayOf(2), 0);
        DateHem both = Texts.halves("pass 12; person p 4 179;");
        Check.due("before both", both.dayOf(0) * 100 + both.hourAt(4, 179), 23);
        both.step(0, 0);
        Check.due("midnight and hem", both.dayOf(0), 0);
        Check.due("hour", both.hourAt(4, 180), 0);
        both.step(0, 1);
        Check.due("both back", both.dayOf(0), 0);
        Check.due("violations()", both.violations(), 0);
    }

    private static void walks() {
        DateHem hem = Texts.halves("person p 4 100; town t 4 5;");
        Check.due("walk", hem.walk(0, 0, 359), 0);
        Check.due("degrees", hem.degreesLeft(0), 359);
        Check.due("anew", hem.walk(0, 1, 12), 359);
        hem.pass(1);
        Check.due("west", hem.meridianOf(0), 90);
        Check.due("stop", hem.walk(0, 0, 0), 2);
        hem.pass(1);
        Check.due("at rest", hem.meridianOf(0), 90);
        Check.throwsIndex("spot 2", () -> hem.walk(2, 2, 360));
        Check.throwsIndex("spot -1", () -> hem.walk(-1, 0, 0));
        Check.throwsArgument("direction 2", () -> hem.walk(0, 2, 0));
        Check.throwsArgument("direction -1", () -> hem.walk(0, -1, 0));
        Check.throwsArgument("degrees 360", () -> hem.walk(1, 0, 360));
        Check.throwsArgument("degrees -1", () -> hem.walk(0, 0, -1));
        Check.throwsState("town", () -> hem.walk(1, 0, 0));
        Check.due("nothing changed", hem.degreesLeft(0), 0);
    }

    private static void hours() {
        DateHem hem = new DateHem();
        Check.due("pass(1)", hem.pass(1), 0);
        Check.due("pass(240)", hem.pass(240), 2);
        Check.due("clock()", hem.clock(), 241);
        Check.due("torn ones tear no more", hem.pass(6), 0);
        Check.throwsArgument("pass(0)", () -> hem.pass(0));
        Check.throwsArgument("pass(-1)", () -> hem.pass(-1));
        Check.throwsArgument("pass(241)", () -> hem.pass(241));
        Check.due("nothing changed", hem.clock(), 247);
        DateHem diary = Texts.halves("person a 0 0; person b 0 345; person c 0 180;");
        diary.pass(1);
        Check.due("midnight at 345", diary.dayOf(1), 0);
        diary.pass(22);
        Check.due("before midnight at 0", diary.dayOf(0), 0);
        diary.pass(1);
        Check.due("midnight at 0", diary.dayOf(0), 1);
        Check.due("noon at 180", diary.dayOf(2), 0);
        diary.pass(48);
        Check.due("two days later", diary.dayOf(0), 3);
    }

    private static void seamsInHours() {
        DateHem hem = Texts.globe("globe 100 60 200; thread 0;");
        hem.pass(5);
        Check.due("before the 6th hour", hem.stitchesOf(0), 20);
        hem.pass(1);
        Check.due("seam 0", hem.stitchesOf(0), 15);
        Check.due("seam 1", hem.stitchesOf(1), 18);
        Check.due("seam 2", hem.stitchesOf(2), 16);
        Check.due("until it tears", hem.pass(18), 1);
        Check.due("torn", hem.stitchesOf(0), 0);
        Check.due("its neighbour 1 in the same hour", hem.stitchesOf(1), 11);
        Check.due("its neighbour 2 in the same hour", hem.stitchesOf(2), 3);
        Check.due("no thread from tearing", hem.thread(), 0);
        DateHem last = Texts.globe("globe 60 100 200; sew 0 10;");
        last.pass(18);
        Check.due("seam 2 before", last.stitchesOf(2), 5);
        Check.due("only seam 2 tears", last.pass(6), 1);
        Check.due("seam 0, before it in the hour", last.stitchesOf(0), 14);
        Check.due("seam 1, before it in the hour", last.stitchesOf(1), 12);
        last.pass(6);
        Check.due("seam 0, an hour of wear later", last.stitchesOf(0), 9);
        Check.due("seam 1, an hour of wear later", last.stitchesOf(1), 9);
        DateHem less = Texts.globe("globe 100 60 200; label a 4 98; rip 1; sew 1 1;");
        Check.due("less than the strain", less.pass(6), 1);
        Check.due("not below 0", less.stitchesOf(1), 0);
    }

    private static void walkersInHours() {
        DateHem hem = Texts.halves("person a 4 185; person b 5 170; walk a west 12; walk b east 25;");
        hem.pass(1);
        Check.due("a", hem.meridianOf(0), 175);
        Check.due("b", hem.meridianOf(1), 180);
        Check.due("a's day", hem.dayOf(0), 0);
        Check.due("b's day", hem.dayOf(1), -1);
        hem.pass(1);
        Check.due("a's last degrees", hem.meridianOf(0), 173);
        Check.due("b", hem.meridianOf(1), 190);
        DateHem torn = Texts.halves("rip 0; person a 4 3; walk a west 50; person b 4 10; walk b west 50;");
        torn.pass(1);
        Check.due("a stops at the seam", torn.meridianOf(0), 0);
        Check.due("a's degrees", torn.degreesLeft(0), 0);
        Check.due("b reaches the seam", torn.meridianOf(1), 0);
        Check.due("b's degrees", torn.degreesLeft(1), 40);
        torn.pass(1);
        Check.due("b's degrees then", torn.degreesLeft(1), 0);
        DateHem order = Texts.halves("person a 4 175; sew 0 79; pass 23; walk a east 12;");
        order.pass(1);
        Check.due("walking comes before wearing", order.meridianOf(0), 185);
        Check.due("torn then", order.stitchesOf(1), 0);
        DateHem midnight = Texts.halves("person a 4 344; walk a east 1;");
        midnight.pass(1);
        Check.due("the hour comes before walking", midnight.dayOf(0), 0);
        Check.due("violations()", midnight.violations(), 0);
    }
}
