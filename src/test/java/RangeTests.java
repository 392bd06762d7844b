import java.lang.reflect.InvocationTargetException;
import java.lang.reflect.Method;
import java.util.ArrayList;
import java.util.List;

/**
 * The paragraph after section 8, for every parameter of every call: what lies in range, which
 * exception is thrown outside, which one if several apply, and that such a call changes nothing.
 */
final class RangeTests {
    /** A kind of parameter with its least and greatest value on the subject. */
    private enum Kind {
        GORE(0, 2, true),
        SEAM(0, 2, true),
        SPOT(0, 1, true),
        LABEL(0, 1, true),
        OUTPUT(0, 36, true),
        BAND(0, 8, false),
        MERIDIAN(0, 359, false),
        DIRECTION(0, 1, false),
        STITCHES(1, 99, false),
        DEGREES(0, 359, false),
        HOURS(1, 240, false),
        FORESIGHT(0, 300, false),
        LENGTH(0, 3, false),
        ANY(Integer.MIN_VALUE, Integer.MAX_VALUE, false);

        final int least;
        final int greatest;
        final boolean isIndex;

        Kind(int least, int greatest, boolean isIndex) {
            this.least = least;
            this.greatest = greatest;
            this.isIndex = isIndex;
        }

        boolean holds(int value) {
            return least <= value && value <= greatest;
        }

        /** Just inside, just outside and far outside. */
        int[] tried() {
            return new int[] {least, greatest, least - 1, greatest + 1, greatest + 2,
                Integer.MIN_VALUE, Integer.MAX_VALUE};
        }
    }

    private static final String PLACE = "BAND MERIDIAN";
    /** The promise's number, the call and its parameters. */
    private static final String[] CALLS = {
        "3 truncate LENGTH", "9 widthOf GORE", "10 beginOf GORE", "11 goreAt MERIDIAN",
        "12 stitchesOf SEAM", "13 strainOf SEAM", "16 hemAt BAND", "17 longitude " + PLACE,
        "18 dayAt " + PLACE, "19 hourAt " + PLACE, "22 nameByte SPOT ANY", "24 isTraveller SPOT",
        "25 bandOf SPOT", "26 meridianOf SPOT", "27 dayOf SPOT", "28 degreesLeft SPOT",
        "29 crossingsOf SPOT", "32 labelBand LABEL", "33 labelFirst LABEL", "34 labelLast LABEL",
        "35 isLabelTorn LABEL", "36 labelAt " + PLACE, "37 hemObstacle " + PLACE,
        "38 labelObstacle " + PLACE, "39 stepObstacle SPOT DIRECTION", "40 hoursUntilTear SEAM",
        "41 meridianAfter SPOT FORESIGHT", "44 labelShare BAND", "45 addTown " + PLACE,
        "46 addTraveller " + PLACE, "47 addLabel " + PLACE, "48 moveHem " + PLACE,
        "49 sew SEAM STITCHES", "50 rip SEAM", "51 step SPOT DIRECTION",
        "52 walk SPOT DIRECTION DEGREES", "53 pass HOURS", "55 printBand BAND",
        "56 outputByte OUTPUT"};

    private final String name;
    private final Method method;
    private final List<Kind> kinds;
    private final String untouched;
    private int outside;

    private RangeTests(String call) throws NoSuchMethodException {
        String[] parts = call.split(" ");
        name = parts[1];
        kinds = new ArrayList<>();
        for (int i = 2; i < parts.length; i++) {
            kinds.add(Kind.valueOf(parts[i]));
        }
        Class<?>[] types = new Class<?>[kinds.size()];
        java.util.Arrays.fill(types, int.class);
        method = DateHem.class.getMethod(name, types);
        untouched = Tale.of(subject());
        outside = 0;
    }

    static void run() throws Exception {
        for (String call : CALLS) {
            Check.part("section 8 and promise " + call.split(" ")[0] + ", parameters in range");
            RangeTests tests = new RangeTests(call);
            tests.tryAll(new Object[tests.kinds.size()], 0);
            Check.due(tests.name + " was refused", tests.outside > 0, true);
        }
    }

    /**
     * Three seams, one of them torn, a traveller, a town, a torn label and a sewn one; calls to
     * undo, a saved state, an error, an output and a word in the input buffer.
     */
    private static DateHem subject() {
        DateHem hem = Texts.globe("globe 100 50 210; person ann 4 90; town oslo 3 5; label d 4 98;"
                + " label abc 4 10; rip 1; pass 5;");
        hem.saveState();
        hem.printBand(4);
        Check.throwsArgument("an error", () -> Texts.type(hem, "sew 1").runScript());
        hem.sew(0, 1);
        hem.walk(0, 1, 44);
        hem.pass(1);
        return Texts.type(hem, "ann");
    }

    private void tryAll(Object[] arguments, int place) throws Exception {
        if (place == arguments.length) {
            tryOne(arguments);
            return;
        }
        for (int value : kinds.get(place).tried()) {
            arguments[place] = value;
            tryAll(arguments, place + 1);
        }
    }

    private void tryOne(Object[] arguments) throws Exception {
        String due = "";
        for (int i = 0; i < arguments.length; i++) {
            Kind kind = kinds.get(i);
            if (!kind.holds((int) arguments[i])) {
                boolean first = kind.isIndex || due.isEmpty();
                due = first ? (kind.isIndex ? "IndexOutOfBounds" : "IllegalArgument") : due;
            }
        }
        DateHem hem = subject();
        String told = name + java.util.Arrays.toString(arguments);
        String got = answerOf(hem, arguments);
        if (due.isEmpty()) {
            boolean inRange = !got.equals("IndexOutOfBounds") && !got.equals("IllegalArgument");
            Check.due(told + " is in range", inRange, true);
        } else {
            outside++;
            Check.due(told, got, due);
            Check.due("all that is shown after " + told, Tale.of(hem), untouched);
        }
    }

    private String answerOf(DateHem hem, Object[] arguments) throws Exception {
        try {
            return method.invoke(hem, arguments).toString();
        } catch (InvocationTargetException e) {
            return e.getCause().getClass().getSimpleName().replace("Exception", "");
        }
    }
}
