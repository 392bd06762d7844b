import java.nio.charset.StandardCharsets;

/** Writes texts into the input buffer, and what a whole object answers. */
final class Texts {
    private Texts() {
    }

    /** Replaces the input buffer by a text of at most 600 signs. */
    static DateHem type(DateHem hem, String text) {
        hem.truncate(0);
        byte[] bytes = text.getBytes(StandardCharsets.ISO_8859_1);
        for (int i = 0; i < bytes.length; i += 20) {
            hem.feed(four(bytes, i), four(bytes, i + 4), four(bytes, i + 8), four(bytes, i + 12),
                    four(bytes, i + 16));
        }
        hem.truncate(bytes.length);
        return hem;
    }

    static int four(byte[] bytes, int at) {
        int sum = 0;
        for (int i = at; i < at + 4; i++) {
            sum = sum << 8 | (i < bytes.length ? bytes[i] & 0xFF : 0);
        }
        return sum;
    }

    /** A new object that has read a description without an error. */
    static DateHem globe(String text) {
        DateHem hem = type(new DateHem(), text);
        try {
            hem.readText();
        } catch (IllegalArgumentException e) {
            Check.fail(text + ": error " + hem.errorCode() + " at " + hem.errorOffset());
        }
        return hem;
    }

    /** A new object whose two gores are 180 wide, with these statements. */
    static DateHem halves(String statements) {
        return globe("globe 180 180; " + statements);
    }

    /** "code at offset" for a description that must have an error, "fine" for one without. */
    static String descriptionError(String text) {
        DateHem hem = type(new DateHem(), text);
        try {
            hem.readText();
        } catch (IllegalArgumentException e) {
            return hem.errorCode() + " at " + hem.errorOffset();
        }
        return hem.errorCode() == 0 && hem.errorOffset() == DateHem.NONE ? "fine" : "unclear";
    }

    /** As descriptionError(), for a script. */
    static String scriptError(String text) {
        DateHem hem = type(new DateHem(), text);
        try {
            hem.runScript();
        } catch (IllegalArgumentException e) {
            return hem.errorCode() + " at " + hem.errorOffset();
        }
        return hem.errorCode() == 0 && hem.errorOffset() == DateHem.NONE ? "fine" : "unclear";
    }

    static String nameOf(DateHem hem, int spot) {
        StringBuilder name = new StringBuilder();
        for (int i = 0; hem.nameByte(spot, i) != DateHem.NONE; i++) {
            name.append((char) hem.nameByte(spot, i));
        }
        return name.toString();
    }

    /** All that undo() and restoreState() bring back, as far as the calls show it. */
    static String stateOf(DateHem hem) {
        StringBuilder all = new StringBuilder();
        all.append("clock ").append(hem.clock()).append(" thread ").append(hem.thread());
        for (int k = 0; k < hem.goreCount(); k++) {
            all.append(" gore ").append(hem.beginOf(k)).append('+').append(hem.widthOf(k))
                    .append('*').append(hem.stitchesOf(k));
        }
        for (int band = 0; band < 9; band++) {
            all.append(" hem ").append(hem.hemAt(band));
        }
        for (int spot = 0; spot < hem.spotCount(); spot++) {
            all.append(" spot ").append(nameOf(hem, spot)).append(hem.isTraveller(spot))
                    .append(' ').append(hem.bandOf(spot)).append(' ').append(hem.meridianOf(spot))
                    .append(' ').append(hem.dayOf(spot)).append(' ').append(hem.degreesLeft(spot))
                    .append(' ').append(hem.crossingsOf(spot))
                    .append(' ').append(hem.meridianAfter(spot, 1));
        }
        for (int label = 0; label < hem.labelCount(); label++) {
            all.append(" label ").append(hem.labelBand(label)).append(' ')
                    .append(hem.labelFirst(label)).append('-').append(hem.labelLast(label))
                    .append(hem.isLabelTorn(label));
        }
        return all.toString();
    }

    /** The output as a text, found by asking byte after byte. */
    static String outputOf(DateHem hem) {
        StringBuilder all = new StringBuilder();
        for (int i = 0; i < 1000; i++) {
            try {
                all.append((char) hem.outputByte(i));
            } catch (IndexOutOfBoundsException e) {
                return all.toString();
            }
        }
        return "endless";
    }

    /** The length of the input buffer, found by trying which truncations are refused. */
    static int inputLength(DateHem hem) {
        for (int length = 600; length > 0; length--) {
            try {
                return hem.truncate(length);
            } catch (IllegalArgumentException e) {
                continue;
            }
        }
        return 0;
    }
}
