/** Promises 55 and 56: the picture of a band. */
final class OutputTests {
    private OutputTests() {
    }

    static void run() {
        Check.part("promise 55");
        pictures();
        order();
        Check.part("promise 56");
        bytes();
    }

    private static String print(DateHem hem, int band) {
        hem.printBand(band);
        return Texts.outputOf(hem);
    }

    private static void pictures() {
        DateHem hem = new DateHem();
        Check.due("printBand(0)", hem.printBand(0), 37);
        Check.due("a new one", Texts.outputOf(hem), "+.................H.................\n");
        DateHem globe = Texts.globe("globe 99 21 240; rip 2; hem 4 199; label abcd 4 9;"
                + " label ab 4 354; label a 3 9;");
        Check.due("band 4", print(globe, 4), "+aa......+..x......H...............a\n");
        Check.due("band 3", print(globe, 3), "+a.......+..x.....H.................\n");
        Check.due("band 5", print(globe, 5), "+........+..x.....H.................\n");
        Check.throwsArgument("printBand(9)", () -> globe.printBand(9));
        Check.throwsArgument("printBand(-1)", () -> globe.printBand(-1));
        Check.due("output is kept", Texts.outputOf(globe), "+........+..x.....H.................\n");
    }

    private static void order() {
        DateHem hem = Texts.globe("globe 120 10 230; rip 1; hem 0 129; hem 1 130; hem 2 139;"
                + " label a 4 117; label b 4 123; label c 4 133; label d 4 147;");
        Check.due("hem in the group of a torn seam", print(hem, 0).substring(11, 15), ".H+.");
        Check.due("hem at the first of a group", print(hem, 1).substring(11, 15), ".xH.");
        Check.due("hem at the last of a group", print(hem, 2).substring(11, 15), ".xH.");
        Check.due("labels", print(hem, 4).substring(10, 19), ".ax+a...H");
        DateHem torn = Texts.globe("globe 100 260; label a 4 98; label b 4 107; rip 1;");
        Check.due("a torn label", print(torn, 4).substring(8, 12), "..x.");
        DateHem two = Texts.globe("globe 100 10 250; rip 1;");
        Check.due("torn and sewn", print(two, 4).substring(9, 12), ".x+");
        DateHem near = Texts.globe("globe 91 10 259; rip 1;");
        Check.due("beside each other", print(near, 4).substring(8, 12), ".x+.");
    }

    private static void bytes() {
        DateHem hem = new DateHem();
        Check.throwsIndex("without output", () -> hem.outputByte(0));
        hem.printBand(4);
        Check.due("outputByte(0)", hem.outputByte(0), 43);
        Check.due("outputByte(1)", hem.outputByte(1), 46);
        Check.due("outputByte(18)", hem.outputByte(18), 72);
        Check.due("outputByte(35)", hem.outputByte(35), 46);
        Check.due("outputByte(36)", hem.outputByte(36), 10);
        Check.throwsIndex("outputByte(37)", () -> hem.outputByte(37));
        Check.throwsIndex("outputByte(-1)", () -> hem.outputByte(-1));
    }
}
