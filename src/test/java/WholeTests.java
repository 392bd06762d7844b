import java.util.ArrayList;
import java.util.List;

/** What the document says of an object as a whole: its 512 calls, and that it stands alone. */
final class WholeTests {
    private static final int CALLS = 512;

    private WholeTests() {
    }

    static void run() {
        longestLife();
        heaviestLife();
        eachCallLate();
        standsAlone();
        allBands();
        onlyTheBand();
        diariesOtherwise();
    }

    private static void longestLife() {
        Check.part("what it is, at most 512 calls");
        DateHem hem = new DateHem();
        for (int call = 1; call < CALLS - 6; call++) {
            hem.pass(240);
        }
        int clock = 240 * (CALLS - 7);
        for (int left = 5; left >= 0; left--) {
            Check.due("undo()", hem.undo(), left);
        }
        Check.due("the 512th call", hem.clock(), clock - 6 * 240);
    }

    /** Scripts of 40 commands, each of which lets 240 hours pass, as often as 512 calls allow. */
    private static void heaviestLife() {
        Check.part("what it is, at most 512 calls, each of them long");
        DateHem hem = new DateHem();
        hem.feed(0x61202020, 0, 0, 0, 0);
        hem.truncate(1);
        hem.addTraveller(4, 200);
        int hours = 0;
        for (int calls = 3; calls + 8 <= CALLS; calls += 3) {
            // "repeat 20(pass 240;" and "pass 240;);" as the bytes of feed().
            hem.feed(0x72657065, 0x61742032, 0x30287061, 0x73732032, 0x34303B20);
            hem.feed(0x70617373, 0x20323430, 0x3B293B20, 0x20202020, 0x20202020);
            Check.due("runScript()", hem.runScript(), 40);
            hours += 40 * 240;
        }
        Check.due("clock()", hem.clock(), hours);
        Check.due("dayOf(0)", hem.dayOf(0), Math.floorDiv(hours - 11, 24));
        Check.due("hourAt(4, 200)", hem.hourAt(4, 200), Math.floorMod(hours - 11, 24));
        Check.due("violations()", hem.violations(), 0);
        Check.due("undo()", hem.undo(), 5);
    }

    private static void eachCallLate() {
        Check.part("what it is, the last calls of 512 are as the first ones");
        DateHem late = new DateHem();
        for (int call = 0; call < 200; call++) {
            late.feed(call, call, call, call, call);
            late.truncate(0);
        }
        Texts.type(late, "globe 180 180; person ann 4 179; label abc 4 160; pass 5;").readText();
        late.walk(0, 0, 25);
        late.pass(1);
        Check.due("meridian", late.meridianOf(0), 189);
        Check.due("day", late.dayOf(0), -1);
        Check.due("stitches", late.stitchesOf(1), 14);
        Check.due("label", late.labelAt(4, 168), 0);
        Check.due("undo()", late.undo(), 1);
        Check.due("degrees", late.degreesLeft(0), 25);
    }

    private static DateHem subject() {
        DateHem hem = Texts.globe("globe 100 50 210; person ann 4 90; town oslo 3 5; label d 4 98;"
                + " pass 5;");
        hem.saveState();
        hem.printBand(4);
        hem.sew(0, 1);
        return Texts.type(hem, "ann");
    }

    private static void standsAlone() {
        Check.part("promise 1, an object has nothing of another");
        DateHem one = subject();
        DateHem other = subject();
        String untouched = Tale.of(subject());
        Check.throwsArgument("an error", () -> Texts.type(other, "globe 9").readText());
        Texts.type(other, "repeat 2 (pass 9; hem 4 170; rip 1;);").runScript();
        Texts.type(other, "z").addTraveller(8, 8);
        Texts.type(other, "z").addLabel(8, 8);
        other.moveHem(3, 200);
        other.step(0, 1);
        other.walk(0, 1, 99);
        other.printBand(8);
        other.saveState();
        other.hoursUntilTear(0);
        other.meridianAfter(0, 9);
        Texts.type(other, "globe 120 120 120; thread 7;").readText();
        other.restoreState();
        Check.due("all that is shown", Tale.of(one), untouched);
    }

    private static void allBands() {
        Check.part("section 1, a gore covers its meridians in all bands");
        String words = "globe 100 10 250; rip 1;";
        for (int band = 0; band < 9; band++) {
            DateHem hem = Texts.globe(words + "person a " + band + " 99; person b " + band + " 109;");
            Check.due("over the torn seam in band " + band, hem.stepObstacle(0, 0), 2);
            Check.due("over the sewn one in band " + band, hem.stepObstacle(1, 0), 0);
            Check.due("a label over the torn one", Texts.type(hem, "a").labelObstacle(band, 99), 5);
            hem.printBand(band);
            Check.due("the picture of band " + band, Texts.outputOf(hem).substring(0, 12),
                    "+.........x+");
        }
    }

    private static void onlyTheBand() {
        Check.part("section 2, the hem of each band is its own");
        for (int band = 0; band < 9; band++) {
            DateHem hem = new DateHem();
            hem.moveHem(band, 240);
            for (int other = 0; other < 9; other++) {
                boolean moved = other == band;
                Check.due("hemAt(" + other + ")", hem.hemAt(other), moved ? 240 : 180);
                Check.due("longitude", hem.longitude(other, 200), moved ? 200 : -160);
                Check.due("day", hem.dayAt(other, 200), moved ? 0 : -1);
                Check.due("hour", hem.hourAt(other, 200), 13);
            }
        }
    }

    private static String diaries(DateHem hem) {
        List<Integer> all = new ArrayList<>();
        for (int spot = 0; spot < 9; spot++) {
            all.add(hem.dayOf(spot));
        }
        return all.toString();
    }

    /** What the section does not tell of leaves each diary as it is. */
    private static void diariesOtherwise() {
        Check.part("section 3, the diary changes only as follows");
        StringBuilder text = new StringBuilder("globe 180 180;");
        for (int spot = 0; spot < 9; spot++) {
            text.append("person ").append((char) ('a' + spot)).append(spot < 5 ? " 4 " : " 5 ")
                    .append(5 + 42 * spot).append(';');
        }
        DateHem hem = Texts.globe(text.toString());
        String before = diaries(hem);
        Check.due("before", before, "[0, 0, 0, 0, 0, -1, -1, -1, -1]");
        hem.sew(1, 9);
        hem.walk(4, 0, 99);
        hem.rip(0);
        Texts.type(hem, "town").addTown(4, 9);
        Texts.type(hem, "word").addLabel(4, 9);
        hem.saveState();
        hem.moveHem(4, 177);
        hem.moveHem(3, 200);
        hem.meridianAfter(4, 99);
        hem.hoursUntilTear(1);
        Check.throwsArgument("an error", () -> Texts.type(hem, "globe 180 180; pass 240").readText());
        Check.throwsArgument("an error", () -> Texts.type(hem, "pass 240; pass").runScript());
        Check.due("after all of it", diaries(hem), before);
        hem.undo();
        Check.due("after undo()", diaries(hem), before);
        hem.restoreState();
        Check.due("after restoreState()", diaries(hem), before);
        hem.step(1, 0);
        Check.due("a step within an hour", diaries(hem), before);
    }
}
