/** The limits that sections 1 and 2 name: gores, seams, the thread, the hem and local time. */
final class GlobeLimitTests {
    private static final String TWELVE = "globe 10 10 10 10 10 10 10 10 10 10 10 250;";

    private GlobeLimitTests() {
    }

    static void run() {
        meridians();
        bands();
        gores();
        widths();
        begins();
        stitches();
        thread();
        hems();
        longitudes();
        hours();
        days();
    }

    private static void meridians() {
        Check.part("section 1, the meridian 0 is east of the meridian 359");
        DateHem hem = Texts.halves("person p 4 359; person q 4 0; person r 0 355; person s 0 4;"
                + " walk r east 10; walk s west 10;");
        Check.due("a step east from 358", Texts.halves("person p 4 358;").step(0, 0), 359);
        Check.due("a step east from 359", hem.step(0, 0), 0);
        Check.due("a step west from 0", hem.step(1, 1), 359);
        Check.due("a step west from 1", Texts.halves("person p 4 1;").step(0, 1), 0);
        hem.pass(1);
        Check.due("walking east", hem.meridianOf(2), 5);
        Check.due("walking west", hem.meridianOf(3), 354);
        Check.due("the gore at 359", hem.goreAt(359), 1);
        Check.due("the gore at 0", hem.goreAt(0), 0);
    }

    private static void bands() {
        Check.part("section 1, 9 bands from 0 to 8");
        for (int band = 0; band < 9; band++) {
            Check.due("hemAt(" + band + ")", new DateHem().hemAt(band), 180);
        }
        Check.throwsArgument("hemAt(-1)", () -> new DateHem().hemAt(-1));
        Check.throwsArgument("hemAt(9)", () -> new DateHem().hemAt(9));
    }

    private static void gores() {
        Check.part("section 1, 2 to 12 gores, initially 2 with the width 180");
        DateHem fresh = new DateHem();
        Check.due("gores", fresh.goreCount(), 2);
        Check.due("the first", fresh.widthOf(0), 180);
        Check.due("the second", fresh.widthOf(1), 180);
        Check.due("one", Texts.descriptionError("globe 350;"), "3 at 9");
        Check.due("none", Texts.descriptionError("globe;"), "1 at 5");
        Check.due("two", Texts.globe("globe 10 350;").goreCount(), 2);
        DateHem twelve = Texts.globe(TWELVE);
        Check.due("twelve", twelve.goreCount(), 12);
        Check.due("the twelfth", twelve.widthOf(11), 250);
        Check.throwsIndex("the thirteenth", () -> twelve.widthOf(12));
        Check.due("thirteen", Texts.descriptionError("globe 10 10 10 10 10 10 10 10 10 10 10 240 10;"),
                "4 at 43");
    }

    private static void widths() {
        Check.part("section 1, a width from 10 to 350, all together 360");
        DateHem least = Texts.globe("globe 10 350;");
        Check.due("the least", least.widthOf(0), 10);
        Check.due("the greatest", least.widthOf(1), 350);
        Check.due("9", Texts.descriptionError("globe 9 350;"), "2 at 6");
        Check.due("351", Texts.descriptionError("globe 351 10;"), "2 at 6");
        Check.due("359 together", Texts.descriptionError("globe 10 349;"), "3 at 12");
        Check.due("361 together", Texts.descriptionError("globe 11 350;"), "2 at 9");
    }

    private static void begins() {
        Check.part("section 1, where gores begin and what they cover");
        DateHem twelve = Texts.globe(TWELVE);
        for (int gore = 0; gore < 12; gore++) {
            Check.due("beginOf(" + gore + ")", twelve.beginOf(gore), 10 * gore);
            Check.due("its first meridian", twelve.goreAt(10 * gore), gore);
            Check.due("the one before", twelve.goreAt((10 * gore + 359) % 360), (gore + 11) % 12);
        }
        Check.part("section 1, the seam 0 is between the last gore and the gore 0");
        DateHem hem = Texts.globe("globe 59 100 201;");
        Check.due("59 and 201", hem.strainOf(0), 4);
        Check.due("59 and 100", hem.strainOf(1), 2);
        Check.due("100 and 201", hem.strainOf(2), 5);
    }

    private static void stitches() {
        Check.part("section 1, 0 to 99 stitches, initially 20");
        DateHem hem = Texts.globe("globe 100 100 160;");
        for (int seam = 0; seam < 3; seam++) {
            Check.due("at first", hem.stitchesOf(seam), 20);
        }
        Check.due("99", hem.sew(0, 79), 99);
        Check.throwsState("100", () -> hem.sew(0, 1));
        Check.due("99 still", hem.stitchesOf(0), 99);
        Check.due("99 from 0", Texts.halves("rip 1;").sew(1, 99), 99);
        Check.throwsState("100 from 1", () -> Texts.halves("rip 1; sew 1 1;").sew(1, 99));
        Check.part("section 1, torn if it has no stitches");
        Check.due("20", hem.tornSeams(), 0);
        hem.rip(1);
        Check.due("0", hem.tornSeams(), 1);
        hem.sew(1, 1);
        Check.due("1", hem.tornSeams(), 0);
        Check.due("all torn", Texts.globe(TWELVE + "rip 0; rip 1; rip 2; rip 3; rip 4; rip 5; rip 6;"
                + " rip 7; rip 8; rip 9; rip 10; rip 11;").tornSeams(), 12);
    }

    private static void thread() {
        Check.part("section 1, the thread is initially 500");
        Check.due("new", new DateHem().thread(), 500);
        Check.due("described", Texts.halves("").thread(), 500);
        DateHem again = Texts.type(Texts.halves("thread 3;"), "globe 180 180;");
        again.readText();
        Check.due("described after another", again.thread(), 500);
        DateHem hem = Texts.halves("thread 1;");
        Check.due("the last of it", hem.sew(0, 1), 21);
        Check.due("none", hem.thread(), 0);
        hem.rip(1);
        Check.due("some again", hem.thread(), 10);
    }

    /** Brings all hems to a meridian in steps of at most 60. */
    private static DateHem allHemsAt(int meridian) {
        DateHem hem = Texts.halves("thread 9999;");
        for (int to = 180; to != meridian;) {
            to += Math.max(-60, Math.min(60, meridian - to));
            for (int band = 0; band < 9; band++) {
                hem.moveHem(band, to);
            }
        }
        return hem;
    }

    private static void hems() {
        Check.part("section 2, the hem is at a meridian from 1 to 359, initially 180");
        DateHem first = allHemsAt(1);
        Check.due("1", first.hemAt(8), 1);
        Check.due("not 0", first.hemObstacle(4, 0), 1);
        Check.throwsState("not 0", () -> first.moveHem(4, 0));
        DateHem last = allHemsAt(359);
        Check.due("359", last.hemAt(0), 359);
        Check.throwsArgument("not 360", () -> last.moveHem(4, 360));
        Check.due("violations() at 1", first.violations(), 0);
        Check.due("violations() at 359", last.violations(), 0);
    }

    private static void longitudes() {
        Check.part("section 2, longitude less than, at and behind the hem");
        DateHem hem = new DateHem();
        int[][] due = {{0, 0}, {178, 178}, {179, 179}, {180, -180}, {181, -179}, {359, -1}};
        for (int[] pair : due) {
            Check.due("longitude of " + pair[0], hem.longitude(4, pair[0]), pair[1]);
        }
        DateHem first = allHemsAt(1);
        Check.due("0 before the hem at 1", first.longitude(4, 0), 0);
        Check.due("1 at the hem at 1", first.longitude(4, 1), -359);
        Check.due("359 behind the hem at 1", first.longitude(4, 359), -1);
        DateHem last = allHemsAt(359);
        Check.due("358 before the hem at 359", last.longitude(4, 358), 358);
        Check.due("359 at the hem at 359", last.longitude(4, 359), -1);
        Check.due("0 before the hem at 359", last.longitude(4, 0), 0);
    }

    private static void hours() {
        Check.part("section 2, the longitude divided by 15 is rounded towards the smaller integer");
        DateHem hem = new DateHem();
        int[][] due = {{0, 0}, {14, 0}, {15, 1}, {16, 1}, {29, 1}, {30, 2}, {179, 11}, {180, 12},
            {194, 12}, {195, 13}, {344, 22}, {345, 23}, {346, 23}, {359, 23}};
        for (int[] pair : due) {
            Check.due("hour at " + pair[0], hem.hourAt(4, pair[0]), pair[1]);
        }
        DateHem first = allHemsAt(1);
        Check.due("hour at -359", first.hourAt(4, 1), 0);
        Check.due("hour at -346", first.hourAt(4, 14), 0);
        Check.due("hour at -345", first.hourAt(4, 15), 1);
        DateHem last = allHemsAt(359);
        Check.due("hour at 358", last.hourAt(4, 358), 23);
        Check.due("hour at 344", last.hourAt(4, 344), 22);
        Check.part("section 2, the clock is initially 0");
        Check.due("new", new DateHem().clock(), 0);
        Check.due("described", Texts.halves("").clock(), 0);
        Check.part("section 2, the local hour is 0 to 23");
        DateHem day = new DateHem();
        for (int clock = 0; clock < 49; clock++) {
            Check.due("hour at 0", day.hourAt(4, 0), clock % 24);
            Check.due("day at 0", day.dayAt(4, 0), clock / 24);
            Check.due("hour at 359", day.hourAt(4, 359), (clock + 23) % 24);
            Check.due("day at 359", day.dayAt(4, 359), (clock + 23) / 24 - 1);
            day.pass(1);
        }
    }

    private static void days() {
        Check.part("section 2, hours divided by 24 are rounded towards the smaller integer");
        DateHem first = allHemsAt(1);
        Check.due("day of the hour -24", first.dayAt(4, 1), -1);
        Check.due("day of the hour -1", first.dayAt(4, 359), -1);
        Check.due("day of the hour 0", first.dayAt(4, 0), 0);
        first.pass(1);
        Check.due("day of the hour -23", first.dayAt(4, 1), -1);
        Check.due("day of the hour 0, a clock later", first.dayAt(4, 359), 0);
        first.pass(22);
        Check.due("day of the hour 23", first.dayAt(4, 0), 0);
        Check.due("day of the hour -1, at the hem", first.dayAt(4, 1), -1);
        first.pass(1);
        Check.due("day of the hour 24", first.dayAt(4, 0), 1);
        Check.due("day of the hour 0, at the hem", first.dayAt(4, 1), 0);
    }
}
