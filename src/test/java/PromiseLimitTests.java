/** The limits that promises 1 to 36 name beyond those of the sections. */
final class PromiseLimitTests {
    private PromiseLimitTests() {
    }

    static void run() {
        feedsBytesInOrder();
        feedsUpTo600();
        truncates();
        errors();
        counts();
        stitchesAndThread();
        names();
        finds();
        days();
        crossings();
        midnights();
        labelEnds();
    }

    private static void feedsBytesInOrder() {
        Check.part("promise 2, 20 bytes, most significant byte first");
        for (int place = 0; place < 20; place++) {
            for (int value : new int[] {0, 1, 123, 127, 128, 255}) {
                byte[] bytes = new byte[20];
                java.util.Arrays.fill(bytes, (byte) ' ');
                bytes[place] = (byte) value;
                DateHem hem = new DateHem();
                Check.due("feed", hem.feed(Texts.four(bytes, 0), Texts.four(bytes, 4),
                        Texts.four(bytes, 8), Texts.four(bytes, 12), Texts.four(bytes, 16)), 20);
                Check.throwsArgument("a strange byte", () -> hem.runScript());
                Check.due("where it is", hem.errorOffset(), place);
            }
        }
        DateHem two = new DateHem();
        two.feed(0x72697020, 0x303B2020, 0x20202020, 0x20202020, 0x20202020);
        two.feed(0x7B202020, 0x20202020, 0x20202020, 0x20202020, 0x20202020);
        Check.throwsArgument("behind what is there", () -> two.runScript());
        Check.due("where it is", two.errorOffset(), 20);
    }

    private static void feedsUpTo600() {
        Check.part("promise 2, not over 600");
        DateHem hem = new DateHem();
        for (int n = 1; n <= 30; n++) {
            Check.due("feed", hem.feed(0, 0, 0, 0, 0), 20 * n);
        }
        for (int length = 600; length > 580; length--) {
            hem.truncate(length);
            Check.throwsState("feed at " + length, () -> hem.feed(0, 0, 0, 0, 0));
            Check.due("the length stays", hem.truncate(length), length);
        }
        hem.truncate(580);
        Check.due("feed at 580", hem.feed(0, 0, 0, 0, 0), 600);
        hem.truncate(579);
        Check.due("feed at 579", hem.feed(0, 0, 0, 0, 0), 599);
    }

    private static void truncates() {
        Check.part("promise 3, 0 to the current length");
        DateHem hem = Texts.type(new DateHem(), "x".repeat(600));
        Check.throwsArgument("601 of 600", () -> hem.truncate(601));
        Check.due("600 of 600", hem.truncate(600), 600);
        Check.due("8 of 600", hem.truncate(8), 8);
        Check.throwsArgument("9 of 8", () -> hem.truncate(9));
        Check.due("1 of 8", hem.truncate(1), 1);
        Check.due("what is left", hem.addTown(0, 0) + Texts.nameOf(hem, 0), "0x");
        Check.throwsArgument("1 of none", () -> hem.truncate(1));
        Check.due("0 of none", hem.truncate(0), 0);
        Check.throwsArgument("-1", () -> hem.truncate(-1));
    }

    private static void errors() {
        Check.part("promises 6 and 7, 0 and NONE without an error or a call");
        DateHem hem = new DateHem();
        Check.due("no call", hem.errorCode() + " " + hem.errorOffset(), "0 -1");
        String[] wrong = {"", "globe 9", "globe 180;", "globe 180 180;walk a", "globe 180 180;sew 0 80;"};
        int[] offsets = {0, 6, 9, 19, 20};
        for (int n = 0; n < wrong.length; n++) {
            String text = wrong[n];
            Check.throwsArgument(text, () -> Texts.type(hem, text).readText());
            Check.due("code", hem.errorCode(), n + 1);
            Check.due("offset", hem.errorOffset(), offsets[n]);
            Texts.type(hem, "globe 180 180;");
            Check.due("code is of the latest call", hem.errorCode(), n + 1);
            Check.due("a good text", hem.readText(), 0);
            Check.due("after it", hem.errorCode() + " " + hem.errorOffset(), "0 -1");
        }
        Check.throwsArgument("a script", () -> Texts.type(hem, "x").runScript());
        Check.due("after it", hem.errorCode() + " " + hem.errorOffset(), "1 0");
        Texts.type(hem, "globe 180 180;").readText();
        Check.due("a good text clears it", hem.errorCode() + " " + hem.errorOffset(), "0 -1");
        Check.throwsArgument("a text", () -> Texts.type(hem, "globe 1").readText());
        Texts.type(hem, "pass 0;").runScript();
        Check.due("a good script clears it", hem.errorCode() + " " + hem.errorOffset(), "0 -1");
    }

    private static void counts() {
        Check.part("promise 4, returns the number of spots");
        StringBuilder ten = new StringBuilder("globe 180 180;");
        for (char letter = 'a'; letter <= 'j'; letter++) {
            Check.due("spots", Texts.type(new DateHem(), ten.toString()).readText(), letter - 'a');
            ten.append(letter % 2 == 0 ? "town " : "person ").append(letter).append(" 1 1;");
        }
        Check.due("ten", Texts.type(new DateHem(), ten.toString()).readText(), 10);
        Check.due("labels are none", Texts.type(new DateHem(), "globe 180 180;label a 0 0;").readText(),
                0);
        Check.part("promise 14, the number of torn seams");
        DateHem hem = Texts.globe("globe 30 30 30 30 30 30 30 30 30 30 30 30;");
        for (int seam = 0; seam < 12; seam++) {
            Check.due("before", hem.tornSeams(), seam);
            hem.rip(seam);
            Check.due("stitchesOf", hem.stitchesOf(seam), 0);
        }
        Check.due("all", hem.tornSeams(), 12);
        Check.part("promises 21 and 31, none at first");
        Check.due("spots", new DateHem().spotCount(), 0);
        Check.due("labels", new DateHem().labelCount(), 0);
    }

    private static void stitchesAndThread() {
        Check.part("promises 12 and 15, after sewing and ripping");
        int[][] halves = {{1, 0}, {2, 1}, {3, 1}, {98, 49}, {99, 49}};
        for (int[] pair : halves) {
            DateHem hem = Texts.halves("rip 1;thread 100;");
            Check.due("sew", hem.sew(1, pair[0]), pair[0]);
            Check.due("thread", hem.thread(), 100 - pair[0]);
            Check.due("stitches", hem.stitchesOf(1), pair[0]);
            hem.rip(1);
            Check.due("half of " + pair[0], hem.thread(), 100 - pair[0] + pair[1]);
            Check.due("none", hem.stitchesOf(1), 0);
        }
    }

    private static void names() {
        Check.part("promise 22, NONE if the name has no such byte");
        DateHem hem = Texts.halves("town a 0 0;person hgfedcba 0 0;");
        Check.due("the only one", hem.nameByte(0, 0), 97);
        Check.due("behind it", hem.nameByte(0, 1), -1);
        Check.due("before it", hem.nameByte(0, -1), -1);
        for (int index = 0; index < 8; index++) {
            Check.due("one of 8", hem.nameByte(1, index), 104 - index);
        }
        for (int index : new int[] {8, 9, 16, 600, -2, Integer.MIN_VALUE, Integer.MAX_VALUE}) {
            Check.due("the byte " + index, hem.nameByte(1, index), -1);
        }
    }

    private static void finds() {
        Check.part("promise 23, equals the whole input buffer, which is kept");
        DateHem hem = Texts.halves("town a 0 0;person ab 0 0;town abcdefgh 0 0;label zed 0 0;");
        String[] typed = {"a", "ab", "abcdefgh", "", "b", "aa", "ba", "abc", "abcdefg", "abcdefghi",
            "a ", " a", "A", "a\0", "\0a", "zed", "abcdefgh".repeat(2)};
        int[] due = {0, 1, 2, -1, -1, -1, -1, -1, -1, -1, -1, -1, -1, -1, -1, -1, -1};
        for (int n = 0; n < typed.length; n++) {
            Texts.type(hem, typed[n]);
            Check.due("findSpot() of " + typed[n], hem.findSpot(), due[n]);
            Check.due("once more", hem.findSpot(), due[n]);
            Check.due("its length", Texts.inputLength(hem), typed[n].length());
        }
        Check.due("without a spot", new DateHem().findSpot(), -1);
    }

    private static void days() {
        Check.part("promise 27, the diary of a traveller, the local day of a town");
        DateHem hem = Texts.halves("town a 4 359;person b 4 359;town c 4 180;person d 4 0;");
        for (int clock = 0; clock < 40; clock++) {
            for (int spot = 0; spot < 4; spot++) {
                Check.due("the clock " + clock, hem.dayOf(spot), hem.dayAt(4, hem.meridianOf(spot)));
            }
            hem.pass(1);
        }
        hem.moveHem(4, 190);
        Check.due("a town that the hem leaves", hem.dayOf(2), hem.dayAt(4, 180));
        Check.part("promise 28, 0 for a town");
        Check.due("degreesLeft", hem.degreesLeft(0), 0);
        hem.walk(1, 0, 359);
        Check.due("of the other", hem.degreesLeft(1), 359);
        hem.walk(1, 0, 0);
        Check.due("at rest", hem.degreesLeft(1), 0);
    }

    private static void crossings() {
        Check.part("promise 29, steps to the hem eastwards, from the hem westwards");
        DateHem hem = Texts.halves("town t 4 179;person p 4 178;person q 5 179;hem 5 181;");
        int[][] walk = {{0, 0}, {0, 1}, {0, 1}, {1, 1}, {1, 2}, {1, 2}, {0, 2}, {0, 3}};
        for (int[] row : walk) {
            hem.step(1, row[0]);
            Check.due("at " + hem.meridianOf(1), hem.crossingsOf(1), row[1]);
        }
        hem.step(2, 0);
        Check.due("the hem of another band", hem.crossingsOf(2), 0);
        hem.step(2, 0);
        Check.due("its own", hem.crossingsOf(2), 1);
        hem.moveHem(4, 185);
        Check.due("a moved hem is not crossed", hem.crossingsOf(1), 3);
        hem.walk(1, 0, 9);
        hem.pass(1);
        Check.due("in an hour", hem.crossingsOf(1), 4);
        hem.undo();
        Check.due("undone", hem.crossingsOf(1), 3);
        Check.due("a town", hem.crossingsOf(0), 0);
        Check.due("of a text", Texts.halves("person p 4 175;walk p east 9;pass 1;").crossingsOf(0), 1);
    }

    private static void midnights() {
        Check.part("promise 30, next at the local hour 0");
        Check.due("no spot", new DateHem().nextMidnight(), -1);
        Check.due("a label is none", Texts.halves("label a 0 0;").nextMidnight(), -1);
        Check.due("there now, alone", Texts.halves("town a 4 0;").nextMidnight(), 0);
        Check.due("there now comes last", Texts.halves("town a 4 14;town b 4 15;").nextMidnight(), 1);
        Check.due("the hour 23 comes first",
                Texts.halves("town a 4 0;town b 4 344;town c 4 345;").nextMidnight(), 2);
        Check.due("the smallest of several", Texts.halves(
                "town a 4 100;person b 4 350;town c 4 345;person d 4 359;").nextMidnight(), 1);
        Check.due("all there now", Texts.halves("town a 4 10;town b 4 5;").nextMidnight(), 0);
        Check.due("no spot moves", Texts.halves(
                "town a 4 320;person b 4 314;walk b east 300;").nextMidnight(), 0);
        DateHem hem = Texts.halves("town a 4 0;town b 4 345;town c 4 180;");
        for (int clock = 0; clock < 25; clock++) {
            int due = clock == 0 || clock == 24 ? 1 : clock < 12 ? 2 : 0;
            Check.due("the clock " + clock, hem.nextMidnight(), due);
            hem.pass(1);
        }
    }

    private static void labelEnds() {
        Check.part("promise 34, the last meridian, also before it was torn");
        DateHem hem = Texts.globe("globe 100 260;label ab 4 97;label abcdefgh 4 336;label a 0 353;");
        Check.due("6 degrees", hem.labelLast(0), 102);
        Check.due("24 degrees up to 359", hem.labelLast(1), 359);
        Check.due("7 degrees up to 359", hem.labelLast(2), 359);
        hem.rip(1);
        Check.due("torn", hem.isLabelTorn(0), true);
        Check.due("6 degrees then", hem.labelLast(0), 102);
        Check.due("its first then", hem.labelFirst(0), 97);
        Check.due("its band then", hem.labelBand(0), 4);
        Check.part("promise 31, torn ones included");
        Check.due("labelCount()", hem.labelCount(), 3);
        Check.part("promise 36, NONE if there is none");
        Check.due("torn", hem.labelAt(4, 99), -1);
        Check.due("at 359", hem.labelAt(4, 359), 1);
        Check.due("at 335", hem.labelAt(4, 335), -1);
        Check.due("at 352", hem.labelAt(0, 352), -1);
        Check.due("at 353", hem.labelAt(0, 353), 2);
    }
}
