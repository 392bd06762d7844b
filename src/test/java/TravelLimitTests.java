/** The limits that section 3 names, and section 5 as far as it speaks of travellers. */
final class TravelLimitTests {
    private TravelLimitTests() {
    }

    static void run() {
        tenSpots();
        names();
        atFirst();
        hoursAndDiaries();
        stepsEastAndDiaries();
        stepsWestAndDiaries();
        hemsEastAndDiaries();
        hemsWestAndDiaries();
        tornSeams();
        tenSteps();
        stopped();
        order();
    }

    private static int add(DateHem hem, boolean travels, String name) {
        Texts.type(hem, name);
        return travels ? hem.addTraveller(4, 0) : hem.addTown(4, 0);
    }

    private static void tenSpots() {
        Check.part("section 3, at most 10 spots, numbered in the order in which they were added");
        DateHem hem = new DateHem();
        for (int n = 0; n < 10; n++) {
            Check.due("spotCount()", hem.spotCount(), n);
            Check.due("the number", add(hem, n % 3 == 0, "" + (char) ('z' - n)), n);
        }
        for (int n = 0; n < 10; n++) {
            Check.due("its name", hem.nameByte(n, 0), 'z' - n);
            Check.due("its kind", hem.isTraveller(n), n % 3 == 0);
        }
        Check.throwsState("an 11th town", () -> add(hem, false, "a"));
        Check.throwsState("an 11th traveller", () -> add(hem, true, "a"));
        Check.due("spotCount() then", hem.spotCount(), 10);
        hem.undo();
        Check.due("a 10th again", add(hem, true, "a"), 9);
    }

    private static void names() {
        Check.part("section 3, a unique name of 1 to 8 letters a to z");
        DateHem hem = new DateHem();
        Check.due("1 letter", add(hem, false, "a"), 0);
        Check.due("8 letters", add(hem, true, "zzzzzzzz"), 1);
        Check.throwsState("0 letters", () -> add(hem, false, ""));
        Check.throwsState("9 letters", () -> add(hem, true, "zzzzzzzzz"));
        Check.throwsState("a town as a town", () -> add(hem, false, "a"));
        Check.throwsState("a town as a traveller", () -> add(hem, true, "a"));
        Check.throwsState("a traveller as a town", () -> add(hem, false, "zzzzzzzz"));
        Check.due("7 of its letters", add(hem, false, "zzzzzzz"), 2);
        Check.due("twice a letter", add(hem, false, "aa"), 3);
        for (char sign = 0; sign < 256; sign++) {
            char tried = sign;
            DateHem fresh = new DateHem();
            if (sign >= 'a' && sign <= 'z') {
                Check.due("the letter " + (int) sign, add(fresh, true, "q" + sign), 0);
            } else {
                Check.throwsState("the byte " + (int) sign, () -> add(fresh, true, "q" + tried));
            }
        }
    }

    private static void atFirst() {
        Check.part("section 3, initially 0 degrees and the local day");
        DateHem hem = Texts.halves("pass 12; person a 4 179; person b 4 180; person c 4 0;");
        Check.due("degrees", hem.degreesLeft(0), 0);
        Check.due("before the hem", hem.dayOf(0), 0);
        Check.due("at the hem", hem.dayOf(1), 0);
        hem.pass(12);
        add(hem, true, "d");
        Check.due("at 0 after a day", hem.dayOf(3), 1);
        Check.due("as the one that was there", hem.dayOf(2), 1);
        hem.pass(1);
        Check.due("it rests", hem.meridianOf(3), 0);
    }

    private static void hoursAndDiaries() {
        Check.part("section 3, an hour from 23 to 0 increases the diary");
        DateHem hem = Texts.halves("person a 4 330; person b 4 345; person c 4 359; person d 4 0;");
        Check.due("at first", days(hem), "-1 -1 -1 0 ");
        hem.pass(1);
        Check.due("22 to 23, 23 to 0, 23 to 0, 0 to 1", days(hem), "-1 0 0 0 ");
        hem.pass(1);
        Check.due("23 to 0, 0 to 1, 0 to 1, 1 to 2", days(hem), "0 0 0 0 ");
        hem.pass(21);
        Check.due("21 to 22 is the last change", days(hem), "0 0 0 0 ");
        hem.pass(1);
        Check.due("d from 23 to 0", days(hem), "0 0 0 1 ");
        hem.pass(1);
        Check.due("b and c once more", days(hem), "0 1 1 1 ");
    }

    private static String days(DateHem hem) {
        StringBuilder all = new StringBuilder();
        for (int spot = 0; spot < hem.spotCount(); spot++) {
            all.append(hem.dayOf(spot)).append(' ');
        }
        return all.toString();
    }

    /** The change of the diary by a step to the east or the west. */
    private static int change(String statements, int direction) {
        DateHem hem = Texts.halves(statements);
        int before = hem.dayOf(0);
        hem.step(0, direction);
        Check.due("violations() after " + statements, hem.violations(), 0);
        return hem.dayOf(0) - before;
    }

    private static void stepsEastAndDiaries() {
        Check.part("section 3, the diary at a step to the east");
        Check.due("hour 23 to 0", change("person a 4 359;", 0), 1);
        Check.due("hour 22 to 23", change("person a 4 344;", 0), 0);
        Check.due("hour 0 to 1", change("person a 4 14;", 0), 0);
        Check.due("hour 23 to 23", change("person a 4 350;", 0), 0);
        Check.due("hour 0 to 0", change("person a 4 5;", 0), 0);
        Check.due("hour 23 to 0 far from 0", change("pass 6; person a 4 269;", 0), 1);
        Check.due("to the hem", change("hem 4 188; person a 4 187;", 0), -1);
        Check.due("to the hem as the hour grows", change("person a 4 179;", 0), -1);
        Check.due("from the hem", change("hem 4 188; person a 4 188;", 0), 0);
        Check.due("to one before the hem", change("hem 4 188; person a 4 186;", 0), 0);
        Check.due("to the hem of another band", change("hem 5 188; person a 4 187;", 0), 0);
        Check.due("both", change("pass 12; person a 4 179;", 0), 0);
    }

    private static void stepsWestAndDiaries() {
        Check.part("section 3, the diary at a step to the west");
        Check.due("hour 0 to 23", change("person a 4 0;", 1), -1);
        Check.due("hour 23 to 22", change("person a 4 345;", 1), 0);
        Check.due("hour 1 to 0", change("person a 4 15;", 1), 0);
        Check.due("hour 23 to 23", change("person a 4 350;", 1), 0);
        Check.due("hour 0 to 0", change("person a 4 5;", 1), 0);
        Check.due("hour 0 to 23 far from 0", change("pass 6; person a 4 270;", 1), -1);
        Check.due("from the hem", change("hem 4 188; person a 4 188;", 1), 1);
        Check.due("from the hem as the hour shrinks", change("person a 4 180;", 1), 1);
        Check.due("to the hem", change("hem 4 188; person a 4 189;", 1), 0);
        Check.due("from one before the hem", change("hem 4 188; person a 4 187;", 1), 0);
        Check.due("from the hem of another band", change("hem 5 188; person a 4 188;", 1), 0);
        Check.due("both", change("pass 12; person a 4 180;", 1), 0);
    }

    private static final String AROUND = "person a 4 184; person b 4 185; person c 4 186;"
            + " person d 4 199; person e 4 200; person f 4 201; town g 4 190; person h 5 190;";

    private static void hemsEastAndDiaries() {
        Check.part("section 3, the diary as the hem is moved to a greater meridian");
        DateHem hem = Texts.halves("hem 4 185;" + AROUND);
        String before = "0 -1 -1 -1 -1 -1 ";
        Check.due("before", days(hem).startsWith(before), true);
        Check.due("not less than the old, less than the new", hem.moveHem(4, 200), 3);
        Check.due("after", days(hem), "0 0 0 0 -1 -1 0 -1 ");
        Check.due("violations()", hem.violations(), 0);
        DateHem one = Texts.halves("hem 4 185;" + AROUND);
        Check.due("by 1", one.moveHem(4, 186), 1);
        Check.due("after 1", days(one), "0 0 -1 -1 -1 -1 -1 -1 ");
    }

    private static void hemsWestAndDiaries() {
        Check.part("section 3, the diary as the hem is moved to a smaller meridian");
        DateHem hem = Texts.halves("hem 4 200;" + AROUND);
        Check.due("before", days(hem), "0 0 0 0 -1 -1 0 -1 ");
        Check.due("not less than the new, less than the old", hem.moveHem(4, 185), 3);
        Check.due("after", days(hem), "0 -1 -1 -1 -1 -1 -1 -1 ");
        Check.due("violations()", hem.violations(), 0);
        DateHem one = Texts.halves("hem 4 200;" + AROUND);
        Check.due("by 1", one.moveHem(4, 199), 1);
        Check.due("after 1", days(one), "0 0 0 -1 -1 -1 0 -1 ");
        Check.due("nobody there", Texts.halves(AROUND).moveHem(3, 200), 0);
    }

    private static void tornSeams() {
        Check.part("section 3, no step over a torn seam");
        DateHem hem = Texts.globe("globe 100 260; rip 0; rip 1; person a 4 98; person b 4 99;"
                + " person c 4 100; person d 4 101; person e 4 358; person f 4 359; person g 4 0;"
                + " person h 4 1;");
        int[] east = {0, 2, 0, 0, 0, 2, 0, 0};
        int[] west = {0, 0, 2, 0, 0, 0, 2, 0};
        for (int spot = 0; spot < 8; spot++) {
            Check.due("east, spot " + spot, hem.stepObstacle(spot, 0), east[spot]);
            Check.due("west, spot " + spot, hem.stepObstacle(spot, 1), west[spot]);
        }
        Check.throwsState("east from 99", () -> hem.step(1, 0));
        Check.throwsState("west from 100", () -> hem.step(2, 1));
        Check.throwsState("east from 359", () -> hem.step(5, 0));
        Check.throwsState("west from 0", () -> hem.step(6, 1));
        Check.due("to 99", hem.step(0, 0), 99);
        Check.due("to 100", hem.step(3, 1), 100);
        Check.due("to 359", hem.step(4, 0), 359);
        Check.due("to 0", hem.step(7, 1), 0);
        hem.sew(0, 1);
        Check.due("east over one stitch", hem.step(5, 0), 0);
        Check.due("west over one stitch", hem.step(6, 1), 359);
    }

    /** Where a traveller is after an hour, and the degrees that are left then. */
    private static String walked(String way, int degrees) {
        DateHem hem = Texts.halves("person a 4 100; walk a " + way + " " + degrees + ";");
        hem.pass(1);
        return hem.meridianOf(0) + " " + hem.degreesLeft(0);
    }

    private static void tenSteps() {
        Check.part("section 5, step 2, at most 10 steps an hour, each one degree less");
        Check.due("no degrees", walked("east", 0), "100 0");
        Check.due("1 degree", walked("east", 1), "101 0");
        Check.due("9 degrees", walked("west", 9), "91 0");
        Check.due("10 degrees", walked("east", 10), "110 0");
        Check.due("11 degrees", walked("west", 11), "90 1");
        Check.due("359 degrees", walked("east", 359), "110 349");
        DateHem hem = Texts.halves("sew 0 79; sew 1 79; person a 4 100; walk a east 359;");
        hem.pass(35);
        Check.due("35 hours", hem.meridianOf(0) + " " + hem.degreesLeft(0), "90 9");
        hem.pass(1);
        Check.due("36 hours", hem.meridianOf(0) + " " + hem.degreesLeft(0), "99 0");
        hem.pass(1);
        Check.due("37 hours", hem.meridianOf(0), 99);
        Check.due("over the hem and 0", hem.dayOf(0), hem.dayAt(4, 99));
        Check.due("crossings", hem.crossingsOf(0), 1);
    }

    /** As walked(), towards the torn seam at 180. */
    private static String towardsTorn(int from, String way, int degrees) {
        DateHem hem = Texts.halves("rip 1; person a 4 " + from + "; walk a " + way + " " + degrees + ";");
        hem.pass(1);
        return hem.meridianOf(0) + " " + hem.degreesLeft(0);
    }

    private static void stopped() {
        Check.part("section 5, step 2, the degrees become 0 if a step is not possible");
        Check.due("at once, east", towardsTorn(179, "east", 50), "179 0");
        Check.due("at once, west", towardsTorn(180, "west", 50), "180 0");
        Check.due("at the 2nd step", towardsTorn(178, "east", 50), "179 0");
        Check.due("at the 10th step", towardsTorn(170, "east", 50), "179 0");
        Check.due("not yet at the 11th", towardsTorn(169, "east", 50), "179 40");
        Check.due("not yet at the 11th, west", towardsTorn(190, "west", 50), "180 40");
        Check.due("at the 10th step, west", towardsTorn(189, "west", 50), "180 0");
        DateHem hem = Texts.halves("rip 1; person a 4 179; walk a east 50; pass 1; sew 1 9;");
        hem.pass(1);
        Check.due("sewn too late", hem.meridianOf(0), 179);
        DateHem kept = Texts.halves("rip 1; person a 4 179; walk a east 5;");
        Check.throwsState("a refused step", () -> kept.step(0, 0));
        Check.due("leaves the degrees", kept.degreesLeft(0), 5);
    }

    private static void order() {
        Check.part("section 5, step 2 comes before step 3");
        DateHem hem = Texts.halves("rip 1; sew 1 6; sew 0 50; person a 4 179; person b 4 175;"
                + " pass 5; walk a east 1; walk b east 20;");
        Check.due("a seam tears", hem.pass(1), 1);
        Check.due("a went over it", hem.meridianOf(0), 180);
        Check.due("b went over it", hem.meridianOf(1), 185);
        hem.walk(0, 1, 1);
        hem.pass(1);
        Check.due("a cannot go back", hem.meridianOf(0), 180);
        Check.due("b goes on", hem.meridianOf(1), 195);
        Check.part("section 5, step 2, towns do not walk");
        DateHem town = Texts.halves("town t 4 9; person p 4 9; walk p east 20;");
        town.pass(1);
        Check.due("the town", town.meridianOf(0), 9);
        Check.due("the traveller", town.meridianOf(1), 19);
    }
}
