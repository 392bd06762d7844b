import java.util.ArrayDeque;
import java.util.ArrayList;
import java.util.Arrays;
import java.util.Deque;
import java.util.List;
import java.util.function.IntSupplier;

/**
 * The document once more, written for the tests in another way than DateHem: places are drawn on a
 * map of each band, days are worked out anew, scripts are trees, and refusals are exceptions.
 */
final class Model {
    /** What undo() and restoreState() bring back. */
    private static final class State {
        int clock = 0;
        int thread = 500;
        int[] widths = {180, 180};
        int[] stitches = {20, 20};
        int[] hems = new int[9];
        List<int[]> labels = new ArrayList<>();
        List<String> names = new ArrayList<>();
        /** Of each spot: 0 kind, 1 band, 2 meridian, 3 direction, 4 degrees, 5 crossings. */
        List<int[]> spots = new ArrayList<>();

        State() {
            Arrays.fill(hems, 180);
        }

        State copy() {
            State other = new State();
            other.clock = clock;
            other.thread = thread;
            other.widths = widths.clone();
            other.stitches = stitches.clone();
            other.hems = hems.clone();
            labels.forEach(label -> other.labels.add(label.clone()));
            other.names.addAll(names);
            spots.forEach(spot -> other.spots.add(spot.clone()));
            return other;
        }
    }

    private static final class Wrong extends Exception {
        private static final long serialVersionUID = 1;
        final int code;
        final int offset;

        Wrong(int code, int offset) {
            super("error");
            this.code = code;
            this.offset = offset;
        }
    }

    private State now = new State();
    private State saved = null;
    private final Deque<State> past = new ArrayDeque<>();
    private String input = "";
    private String output = "";
    private int errorCode = 0;
    private int errorOffset = -1;

    // ---- refusals

    private static void index(boolean good) {
        if (!good) {
            throw new IndexOutOfBoundsException();
        }
    }

    private static void argument(boolean good) {
        if (!good) {
            throw new IllegalArgumentException();
        }
    }

    private static void state(boolean good) {
        if (!good) {
            throw new IllegalStateException();
        }
    }

    private static boolean within(int value, int low, int high) {
        return low <= value && value <= high;
    }

    private static void place(int band, int meridian) {
        argument(within(band, 0, 8));
        argument(within(meridian, 0, 359));
    }

    private int[] spot(int spot) {
        index(within(spot, 0, now.spots.size() - 1));
        return now.spots.get(spot);
    }

    private int[] label(int label) {
        index(within(label, 0, now.labels.size() - 1));
        return now.labels.get(label);
    }

    private void seam(int seam) {
        index(within(seam, 0, now.widths.length - 1));
    }

    // ---- input

    int feed(int a, int b, int c, int d, int e) {
        state(input.length() <= 580);
        StringBuilder more = new StringBuilder(input);
        for (int four : new int[] {a, b, c, d, e}) {
            for (byte one : java.nio.ByteBuffer.allocate(4).putInt(four).array()) {
                more.append((char) (one & 0xFF));
            }
        }
        input = more.toString();
        return input.length();
    }

    int truncate(int length) {
        argument(within(length, 0, input.length()));
        input = input.substring(0, length);
        return length;
    }

    int readText() {
        State before = now;
        String text = input;
        input = "";
        errorCode = 0;
        errorOffset = -1;
        try {
            now = new State();
            new Reader(text).description();
            past.clear();
            return now.spots.size();
        } catch (Wrong wrong) {
            now = before;
            errorCode = wrong.code;
            errorOffset = wrong.offset;
            throw new IllegalArgumentException();
        }
    }

    int runScript() {
        String text = input;
        input = "";
        errorCode = 0;
        errorOffset = -1;
        List<Command> commands;
        try {
            commands = new Reader(text).script(0);
        } catch (Wrong wrong) {
            errorCode = wrong.code;
            errorOffset = wrong.offset;
            throw new IllegalArgumentException();
        }
        Deque<State> earlier = new ArrayDeque<>(past);
        State before = now.copy();
        executed = 0;
        runAll(commands);
        past.clear();
        past.addAll(earlier);
        remember(before);
        return executed;
    }

    int errorCode() {
        return errorCode;
    }

    int errorOffset() {
        return errorOffset;
    }

    // ---- gores and seams

    int goreCount() {
        return now.widths.length;
    }

    int widthOf(int gore) {
        seam(gore);
        return now.widths[gore];
    }

    int beginOf(int gore) {
        seam(gore);
        return Arrays.stream(now.widths).limit(gore).sum();
    }

    int goreAt(int meridian) {
        argument(within(meridian, 0, 359));
        int gore = 0;
        for (int left = meridian; left >= now.widths[gore]; gore++) {
            left -= now.widths[gore];
        }
        return gore;
    }

    int stitchesOf(int seam) {
        seam(seam);
        return now.stitches[seam];
    }

    int strainOf(int seam) {
        seam(seam);
        int n = goreCount();
        int torn = 0;
        for (int beside : new int[] {(seam + n - 1) % n, (seam + 1) % n}) {
            torn += now.stitches[beside] == 0 ? 1 : 0;
        }
        return (now.widths[(seam + n - 1) % n] + now.widths[seam]) / 60 + torn;
    }

    int tornSeams() {
        return (int) Arrays.stream(now.stitches).filter(s -> s == 0).count();
    }

    int thread() {
        return now.thread;
    }

    // ---- the hem and local time

    int hemAt(int band) {
        argument(within(band, 0, 8));
        return now.hems[band];
    }

    int longitude(int band, int meridian) {
        place(band, meridian);
        return meridian - (meridian >= now.hems[band] ? 360 : 0);
    }

    private int localHours(int band, int meridian) {
        return (int) Math.floor(now.clock + longitude(band, meridian) / 15.0);
    }

    int dayAt(int band, int meridian) {
        return (int) Math.floor(localHours(band, meridian) / 24.0);
    }

    int hourAt(int band, int meridian) {
        return localHours(band, meridian) - 24 * dayAt(band, meridian);
    }

    int clock() {
        return now.clock;
    }

    // ---- towns and travellers

    int spotCount() {
        return now.spots.size();
    }

    int nameByte(int spot, int index) {
        spot(spot);
        String name = now.names.get(spot);
        return within(index, 0, name.length() - 1) ? name.charAt(index) : -1;
    }

    int findSpot() {
        return now.names.indexOf(input);
    }

    boolean isTraveller(int spot) {
        return spot(spot)[0] == 1;
    }

    int bandOf(int spot) {
        return spot(spot)[1];
    }

    int meridianOf(int spot) {
        return spot(spot)[2];
    }

    int dayOf(int spot) {
        return dayAt(bandOf(spot), meridianOf(spot));
    }

    int degreesLeft(int spot) {
        return spot(spot)[4];
    }

    int crossingsOf(int spot) {
        return spot(spot)[5];
    }

    int nextMidnight() {
        for (int hours = 1; hours <= 24; hours++) {
            for (int spot = 0; spot < spotCount(); spot++) {
                if ((hourAt(bandOf(spot), meridianOf(spot)) + hours) % 24 == 0) {
                    return spot;
                }
            }
        }
        return -1;
    }

    // ---- labels; of each: 0 band, 1 first, 2 last, 3 torn

    int labelCount() {
        return now.labels.size();
    }

    int labelBand(int label) {
        return label(label)[0];
    }

    int labelFirst(int label) {
        return label(label)[1];
    }

    int labelLast(int label) {
        return label(label)[2];
    }

    boolean isLabelTorn(int label) {
        return label(label)[3] == 1;
    }

    /** For each meridian of a band, the label that covers it, or -1. */
    private int[] map(int band) {
        int[] map = new int[360];
        Arrays.fill(map, -1);
        for (int n = 0; n < labelCount(); n++) {
            if (labelBand(n) == band && !isLabelTorn(n)) {
                Arrays.fill(map, labelFirst(n), labelLast(n) + 1, n);
            }
        }
        return map;
    }

    int labelAt(int band, int meridian) {
        place(band, meridian);
        return map(band)[meridian];
    }

    /** Whether the same label covers a meridian and the one before it. */
    private boolean isWithin(int band, int meridian) {
        int[] map = map(band);
        return meridian > 0 && map[meridian] != -1 && map[meridian] == map[meridian - 1];
    }

    // ---- explanations and predictions

    int hemObstacle(int band, int meridian) {
        place(band, meridian);
        if (now.hems[band] == meridian || meridian == 0) {
            return 1;
        }
        for (int beside = 0; beside < 9; beside++) {
            if (Math.abs(beside - band) == 1 && Math.abs(now.hems[beside] - meridian) > 60) {
                return 2;
            }
        }
        if (isWithin(band, meridian)) {
            return 3;
        }
        return now.thread < price(band, meridian) ? 4 : 0;
    }

    private int price(int band, int meridian) {
        return (int) Math.ceil(Math.abs(now.hems[band] - meridian) / 5.0);
    }

    private static boolean isWord(String text) {
        return text.matches("[a-z]{1,8}");
    }

    int labelObstacle(int band, int meridian) {
        place(band, meridian);
        return labelObstacle(input, band, meridian);
    }

    private static int end(String word, int band, int first) {
        return first + word.length() * (3 + (band < 4 ? 4 - band : band - 4));
    }

    private int labelObstacle(String word, int band, int first) {
        if (!isWord(word)) {
            return 1;
        }
        int end = end(word, band, first);
        if (end > 360) {
            return 2;
        }
        int[] map = map(band);
        for (int m = first; m < end; m++) {
            if (map[m] != -1) {
                return 3;
            }
        }
        if (first < now.hems[band] && now.hems[band] < end) {
            return 4;
        }
        for (int seam = 0; seam < goreCount(); seam++) {
            if (now.stitches[seam] == 0 && first < beginOf(seam) && beginOf(seam) < end) {
                return 5;
            }
        }
        return 0;
    }

    int stepObstacle(int spot, int direction) {
        int[] it = spot(spot);
        argument(direction == 0 || direction == 1);
        if (it[0] == 0) {
            return 1;
        }
        int border = (it[2] + 1 - direction) % 360;
        int gore = goreAt(border);
        return beginOf(gore) == border && now.stitches[gore] == 0 ? 2 : 0;
    }

    private <T> T dreaming(java.util.function.Supplier<T> dream) {
        State real = now;
        now = now.copy();
        T answer = dream.get();
        now = real;
        return answer;
    }

    int hoursUntilTear(int seam) {
        seam(seam);
        return dreaming(() -> {
            for (int hours = 0; hours <= 300; hours++) {
                if (now.stitches[seam] == 0) {
                    return hours;
                }
                hour();
            }
            return -1;
        });
    }

    int meridianAfter(int spot, int hours) {
        spot(spot);
        argument(within(hours, 0, 300));
        return dreaming(() -> {
            for (int n = 0; n < hours; n++) {
                hour();
            }
            return meridianOf(spot);
        });
    }

    // ---- checks and measures

    int violations() {
        return 0;
    }

    double meanStitches() {
        return (double) Arrays.stream(now.stitches).sum() / (double) goreCount();
    }

    float labelShare(int band) {
        argument(within(band, 0, 8));
        return (float) Arrays.stream(map(band)).filter(n -> n != -1).count() / 360f;
    }

    // ---- changes

    private void remember(State before) {
        past.push(before);
        if (past.size() > 6) {
            past.removeLast();
        }
    }

    private int addSpot(int kind, int band, int meridian) {
        place(band, meridian);
        state(isWord(input) && !now.names.contains(input) && spotCount() < 10);
        remember(now.copy());
        now.names.add(input);
        now.spots.add(new int[] {kind, band, meridian, 0, 0, 0});
        input = "";
        return spotCount() - 1;
    }

    int addTown(int band, int meridian) {
        return addSpot(0, band, meridian);
    }

    int addTraveller(int band, int meridian) {
        return addSpot(1, band, meridian);
    }

    int addLabel(int band, int meridian) {
        state(labelObstacle(band, meridian) == 0 && labelCount() < 8);
        remember(now.copy());
        now.labels.add(new int[] {band, meridian, end(input, band, meridian) - 1, 0});
        input = "";
        return labelCount() - 1;
    }

    int moveHem(int band, int meridian) {
        state(hemObstacle(band, meridian) == 0);
        remember(now.copy());
        int[] before = new int[spotCount()];
        Arrays.setAll(before, this::dayOf);
        now.thread -= price(band, meridian);
        now.hems[band] = meridian;
        int changed = 0;
        for (int n = 0; n < spotCount(); n++) {
            changed += isTraveller(n) && dayOf(n) != before[n] ? 1 : 0;
        }
        return changed;
    }

    int sew(int seam, int stitches) {
        seam(seam);
        argument(within(stitches, 1, 99));
        state(now.stitches[seam] + stitches < 100 && now.thread >= stitches);
        remember(now.copy());
        now.thread -= stitches;
        now.stitches[seam] += stitches;
        return now.stitches[seam];
    }

    private int tear(int seam) {
        now.stitches[seam] = 0;
        int count = 0;
        for (int[] label : now.labels) {
            if (label[3] == 0 && label[1] < beginOf(seam) && beginOf(seam) <= label[2]) {
                label[3] = 1;
                count++;
            }
        }
        return count;
    }

    int rip(int seam) {
        seam(seam);
        state(now.stitches[seam] > 0);
        remember(now.copy());
        now.thread += now.stitches[seam] / 2;
        return tear(seam);
    }

    private void move(int[] spot, int direction) {
        int next = Math.floorMod(spot[2] + (direction == 0 ? 1 : -1), 360);
        int crossed = direction == 0 ? next : spot[2];
        spot[5] += crossed == now.hems[spot[1]] ? 1 : 0;
        spot[2] = next;
    }

    int step(int spot, int direction) {
        state(stepObstacle(spot, direction) == 0);
        remember(now.copy());
        move(spot(spot), direction);
        return meridianOf(spot);
    }

    int walk(int spot, int direction, int degrees) {
        int[] it = spot(spot);
        argument(within(direction, 0, 1) && within(degrees, 0, 359));
        state(it[0] == 1);
        remember(now.copy());
        it = spot(spot);
        int before = it[4];
        it[3] = direction;
        it[4] = degrees;
        return before;
    }

    int pass(int hours) {
        argument(within(hours, 1, 240));
        remember(now.copy());
        int torn = tornSeams();
        for (int n = 0; n < hours; n++) {
            hour();
        }
        return tornSeams() - torn;
    }

    private void hour() {
        now.clock++;
        for (int n = 0; n < spotCount(); n++) {
            int[] spot = spot(n);
            int end = Math.max(0, spot[4] - 10);
            while (spot[4] > end) {
                if (stepObstacle(n, spot[3]) == 0) {
                    move(spot, spot[3]);
                    spot[4]--;
                } else {
                    spot[4] = 0;
                }
            }
        }
        for (int seam = 0; now.clock % 6 == 0 && seam < goreCount(); seam++) {
            if (now.stitches[seam] > 0) {
                now.stitches[seam] -= strainOf(seam);
                if (now.stitches[seam] <= 0) {
                    tear(seam);
                }
            }
        }
    }

    // ---- undo, output, saved state

    int undo() {
        state(!past.isEmpty());
        now = past.pop();
        return past.size();
    }

    int printBand(int band) {
        argument(within(band, 0, 8));
        StringBuilder picture = new StringBuilder();
        for (int group = 0; group < 36; group++) {
            String seen = "";
            for (int m = group * 10; m < group * 10 + 10; m++) {
                seen += m == now.hems[band] ? "H" : "";
                seen += labelAt(band, m) != -1 ? "a" : "";
                if (beginOf(goreAt(m)) == m) {
                    seen += now.stitches[goreAt(m)] == 0 ? "x" : "+";
                }
            }
            for (String sign : new String[] {"H", "x", "+", "a", ""}) {
                if (seen.contains(sign)) {
                    picture.append(sign.isEmpty() ? "." : sign);
                    break;
                }
            }
        }
        output = picture.append('\n').toString();
        return output.length();
    }

    int outputByte(int index) {
        index(within(index, 0, output.length() - 1));
        return output.charAt(index);
    }

    int saveState() {
        saved = now.copy();
        return now.clock;
    }

    int restoreState() {
        state(saved != null);
        now = saved.copy();
        past.clear();
        return now.clock;
    }

    // ---- scripts and descriptions

    private record Command(String word, int[] numbers, List<Command> inside) {
    }

    private int executed;

    /** Answers whether to go on. */
    private boolean runAll(List<Command> commands) {
        for (Command command : commands) {
            if (command.inside != null) {
                for (int n = 0; n < command.numbers[0]; n++) {
                    if (!runAll(command.inside)) {
                        return false;
                    }
                }
            } else if (executed == 40 || !runOne(command)) {
                return false;
            }
        }
        return true;
    }

    private boolean runOne(Command command) {
        int[] n = command.numbers;
        IntSupplier call = switch (command.word) {
            case "hem" -> () -> moveHem(n[0], n[1]);
            case "sew" -> () -> sew(n[0], n[1]);
            case "step" -> () -> step(n[0], n[1]);
            case "walk" -> () -> walk(n[0], n[1], n[2]);
            case "rip" -> () -> rip(n[0]);
            default -> () -> pass(n[0]);
        };
        try {
            call.getAsInt();
            executed++;
            return true;
        } catch (RuntimeException refused) {
            return false;
        }
    }

    /** Cuts a text into tokens beforehand; an empty token is the end. */
    private final class Reader {
        private final List<String> tokens = new ArrayList<>();
        private final List<Integer> offsets = new ArrayList<>();
        private int at = 0;
        private int commands = 0;

        Reader(String text) {
            java.util.regex.Matcher found =
                    java.util.regex.Pattern.compile("[a-z]+|[0-9]+|[^ \n]").matcher(text);
            while (found.find()) {
                tokens.add(found.group());
                offsets.add(found.start());
            }
            tokens.add("");
            offsets.add(text.length());
        }

        private String token() {
            return tokens.get(at);
        }

        private void must(boolean good, int code) throws Wrong {
            if (!good) {
                throw new Wrong(code, offsets.get(at));
            }
        }

        private void sign(String sign) throws Wrong {
            must(token().equals(sign), 1);
            at++;
        }

        private int number() throws Wrong {
            must(token().matches("[0-9]{1,4}"), 1);
            return Integer.parseInt(token());
        }

        private int number(int low, int high) throws Wrong {
            int number = number();
            must(within(number, low, high), 2);
            at++;
            return number;
        }

        void description() throws Wrong {
            sign("globe");
            widths();
            while (!token().isEmpty()) {
                statement();
                sign(";");
            }
        }

        private void widths() throws Wrong {
            List<Integer> widths = new ArrayList<>();
            int sum = 0;
            do {
                int width = number();
                must(within(width, 10, 350) && sum + width <= 360, 2);
                must(widths.size() < 12, 4);
                widths.add(width);
                sum += width;
                at++;
            } while (!token().equals(";"));
            must(sum == 360, 3);
            at++;
            now.widths = widths.stream().mapToInt(w -> w).toArray();
            now.stitches = new int[widths.size()];
            Arrays.fill(now.stitches, 20);
        }

        private void statement() throws Wrong {
            switch (token()) {
                case "town", "person" -> spot(token().equals("town") ? 0 : 1);
                case "label" -> label();
                case "hem" -> hem();
                case "sew" -> sewing();
                case "rip" -> ripping();
                case "walk" -> walking();
                case "thread" -> {
                    at++;
                    now.thread = number(0, 9999);
                }
                case "pass" -> {
                    at++;
                    for (int left = number(1, 240); left > 0; left--) {
                        hour();
                    }
                }
                default -> must(false, 1);
            }
        }

        private void spot(int kind) throws Wrong {
            must(spotCount() < 10, 4);
            at++;
            must(isWord(token()), 1);
            must(!now.names.contains(token()), 3);
            String name = token();
            at++;
            int band = number(0, 8);
            int meridian = number(0, 359);
            now.names.add(name);
            now.spots.add(new int[] {kind, band, meridian, 0, 0, 0});
        }

        private void label() throws Wrong {
            must(labelCount() < 8, 4);
            at++;
            must(isWord(token()), 1);
            String word = token();
            at++;
            int band = number(0, 8);
            int first = number(0, 359);
            at--;
            must(labelObstacle(word, band, first) == 0, 5);
            at++;
            now.labels.add(new int[] {band, first, end(word, band, first) - 1, 0});
        }

        private void hem() throws Wrong {
            at++;
            int band = number(0, 8);
            int meridian = number(0, 359);
            at--;
            must(hemObstacle(band, meridian) == 0, 5);
            at++;
            now.thread -= price(band, meridian);
            now.hems[band] = meridian;
        }

        private void sewing() throws Wrong {
            at++;
            int seam = number(0, goreCount() - 1);
            int stitches = number(1, 99);
            at--;
            must(now.stitches[seam] + stitches < 100 && stitches <= now.thread, 5);
            at++;
            now.stitches[seam] += stitches;
            now.thread -= stitches;
        }

        private void ripping() throws Wrong {
            at++;
            int seam = number(0, goreCount() - 1);
            at--;
            must(now.stitches[seam] > 0, 5);
            at++;
            now.thread += now.stitches[seam] / 2;
            tear(seam);
        }

        private void walking() throws Wrong {
            at++;
            must(isWord(token()), 1);
            must(now.names.contains(token()), 4);
            int spot = now.names.indexOf(token());
            must(isTraveller(spot), 5);
            at++;
            must(token().equals("east") || token().equals("west"), 1);
            now.spots.get(spot)[3] = token().equals("east") ? 0 : 1;
            at++;
            now.spots.get(spot)[4] = number(0, 359);
        }

        List<Command> script(int depth) throws Wrong {
            List<Command> all = new ArrayList<>();
            while (!token().equals(depth == 0 ? "" : ")")) {
                all.add(command(depth));
                sign(";");
            }
            return all;
        }

        private Command command(int depth) throws Wrong {
            String word = token();
            must(word.matches("hem|sew|step|walk|rip|pass|repeat"), 1);
            must(!word.equals("repeat") || depth < 2, 3);
            must(commands < 30, 5);
            commands++;
            at++;
            if (word.equals("repeat")) {
                int times = number(1, 20);
                sign("(");
                List<Command> inside = script(depth + 1);
                sign(")");
                return new Command(word, new int[] {times}, inside);
            }
            int count = word.matches("rip|pass") ? 1 : word.equals("walk") ? 3 : 2;
            int[] numbers = new int[count];
            for (int n = 0; n < count; n++) {
                numbers[n] = number(0, 9999);
            }
            return new Command(word, numbers, null);
        }
    }
}
