/** Promises 16 to 20: the hem and local time. */
final class TimeTests {
    private TimeTests() {
    }

    static void run() {
        DateHem hem = Texts.halves("hem 3 120; hem 8 225;");
        Check.part("promise 16");
        Check.due("hemAt(3)", hem.hemAt(3), 120);
        Check.due("hemAt(8)", hem.hemAt(8), 225);
        Check.due("hemAt(0)", hem.hemAt(0), 180);
        Check.throwsArgument("hemAt(9)", () -> hem.hemAt(9));
        Check.throwsArgument("hemAt(-1)", () -> hem.hemAt(-1));
        longitudes(hem);
        days(hem);
        Check.part("promise 20");
        DateHem fresh = new DateHem();
        Check.due("clock() at first", fresh.clock(), 0);
        fresh.pass(240);
        fresh.pass(3);
        Check.due("clock()", fresh.clock(), 243);
    }

    private static void longitudes(DateHem hem) {
        Check.part("promise 17");
        Check.due("longitude(3, 0)", hem.longitude(3, 0), 0);
        Check.due("longitude(3, 119)", hem.longitude(3, 119), 119);
        Check.due("longitude(3, 120)", hem.longitude(3, 120), -240);
        Check.due("longitude(3, 359)", hem.longitude(3, 359), -1);
        Check.due("longitude(8, 224)", hem.longitude(8, 224), 224);
        Check.due("longitude(8, 225)", hem.longitude(8, 225), -135);
        Check.throwsArgument("longitude(9, 0)", () -> hem.longitude(9, 0));
        Check.throwsArgument("longitude(-1, 0)", () -> hem.longitude(-1, 0));
        Check.throwsArgument("longitude(0, 360)", () -> hem.longitude(0, 360));
        Check.throwsArgument("longitude(0, -1)", () -> hem.longitude(0, -1));
    }

    private static void days(DateHem hem) {
        Check.part("promise 18");
        Check.due("dayAt(3, 119)", hem.dayAt(3, 119), 0);
        Check.due("dayAt(3, 120)", hem.dayAt(3, 120), -1);
        Check.due("dayAt(3, 359)", hem.dayAt(3, 359), -1);
        Check.throwsArgument("dayAt(9, 0)", () -> hem.dayAt(9, 0));
        Check.throwsArgument("dayAt(0, 360)", () -> hem.dayAt(0, 360));
        Check.throwsArgument("dayAt(-1, -1)", () -> hem.dayAt(-1, -1));
        Check.part("promise 19");
        Check.due("hourAt(3, 0)", hem.hourAt(3, 0), 0);
        Check.due("hourAt(3, 14)", hem.hourAt(3, 14), 0);
        Check.due("hourAt(3, 15)", hem.hourAt(3, 15), 1);
        Check.due("hourAt(3, 119)", hem.hourAt(3, 119), 7);
        Check.due("hourAt(3, 120)", hem.hourAt(3, 120), 8);
        Check.due("hourAt(3, 359)", hem.hourAt(3, 359), 23);
        Check.due("hourAt(3, 345)", hem.hourAt(3, 345), 23);
        Check.due("hourAt(3, 344)", hem.hourAt(3, 344), 22);
        Check.throwsArgument("hourAt(9, 0)", () -> hem.hourAt(9, 0));
        Check.throwsArgument("hourAt(0, 360)", () -> hem.hourAt(0, 360));
        hem.pass(17);
        Check.part("promises 18 and 19, later");
        Check.due("hourAt(8, 105)", hem.hourAt(8, 105), 0);
        Check.due("dayAt(8, 105)", hem.dayAt(8, 105), 1);
        Check.due("hourAt(8, 104)", hem.hourAt(8, 104), 23);
        Check.due("dayAt(8, 104)", hem.dayAt(8, 104), 0);
        Check.due("dayAt(8, 224)", hem.dayAt(8, 224), 1);
        Check.due("dayAt(8, 225)", hem.dayAt(8, 225), 0);
        hem.pass(240);
        Check.due("dayAt(8, 104) later", hem.dayAt(8, 104), 10);
        Check.due("hourAt(8, 104) later", hem.hourAt(8, 104), 23);
    }
}
