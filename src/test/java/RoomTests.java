import java.lang.management.ManagementFactory;

/** LANGUAGE.md, rule 12: an object makes its rows once, and the calls make nothing but exceptions. */
final class RoomTests {
    private static final int ROUNDS = 40;
    private static final int MOST_BYTES = 20_000;

    private RoomTests() {
    }

    static void run() {
        Check.part("the language, rule 12");
        DateHem hem = Texts.globe("globe 30 30 30 30 30 30 30 30 30 30 30 30;");
        int[] text = packed("globe 180 180;person a 4 3;town b 0 5;label c 4 9;sew 0 5;rip 1;hem 4 200;"
                + "walk a east 359;thread 900;pass 240;");
        int[] script = packed("repeat 2 (repeat 20 (pass 240;););");
        round(hem, text, script);
        long before = allocated();
        for (int n = 0; n < ROUNDS; n++) {
            round(hem, text, script);
        }
        long made = allocated() - before;
        Check.due("bytes made by " + ROUNDS + " rounds: " + made, made < MOST_BYTES, true);
    }

    private static long allocated() {
        com.sun.management.ThreadMXBean threads =
                (com.sun.management.ThreadMXBean) ManagementFactory.getThreadMXBean();
        return threads.getThreadAllocatedBytes(Thread.currentThread().getId());
    }

    /** A text as arguments of feed(), filled up with blanks. */
    private static int[] packed(String text) {
        byte[] bytes = (text + " ".repeat(20 - text.length() % 20)).getBytes();
        int[] fours = new int[bytes.length / 4];
        for (int i = 0; i < fours.length; i++) {
            fours[i] = Texts.four(bytes, 4 * i);
        }
        return fours;
    }

    private static void type(DateHem hem, int[] fours) {
        for (int i = 0; i < fours.length; i += 5) {
            hem.feed(fours[i], fours[i + 1], fours[i + 2], fours[i + 3], fours[i + 4]);
        }
    }

    /** Calls of every kind that is not refused. */
    private static void round(DateHem hem, int[] text, int[] script) {
        type(hem, text);
        hem.readText();
        type(hem, script);
        hem.runScript();
        hem.feed(0x78797A20, 0, 0, 0, 0);
        hem.truncate(3);
        hem.labelObstacle(2, 9);
        hem.findSpot();
        hem.addLabel(2, 9);
        hem.feed(0x78797A20, 0, 0, 0, 0);
        hem.truncate(2);
        hem.addTraveller(3, 9);
        hem.feed(0x78797A20, 0, 0, 0, 0);
        hem.truncate(1);
        hem.addTown(3, 9);
        hem.moveHem(3, 200);
        hem.sew(1, 9);
        hem.step(2, 0);
        hem.walk(2, 1, 99);
        hem.pass(6);
        hem.rip(1);
        hem.undo();
        hem.saveState();
        hem.restoreState();
        hem.hoursUntilTear(1);
        hem.meridianAfter(2, 300);
        hem.violations();
        hem.nextMidnight();
        hem.printBand(3);
        hem.truncate(0);
    }
}
