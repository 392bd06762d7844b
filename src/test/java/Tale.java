/** All that the calls show of an object, to compare two that must be alike. */
final class Tale {
    private Tale() {
    }

    /** The object is used up by this: all is undone and the saved state brought back. */
    static String of(DateHem hem) {
        StringBuilder all = new StringBuilder();
        all.append("input ").append(Texts.inputLength(hem)).append(" spot ").append(hem.findSpot())
                .append(" label ").append(hem.labelObstacle(8, 200))
                .append(" error ").append(hem.errorCode()).append(" at ").append(hem.errorOffset())
                .append(" output ").append(Texts.outputOf(hem))
                .append("now ").append(Texts.stateOf(hem));
        for (int n = 0; n < 7; n++) {
            all.append("\nundo ").append(undone(hem));
        }
        return all.append("\nsaved ").append(restored(hem)).toString();
    }

    private static String undone(DateHem hem) {
        try {
            return hem.undo() + " " + Texts.stateOf(hem);
        } catch (IllegalStateException e) {
            return "none";
        }
    }

    private static String restored(DateHem hem) {
        try {
            return hem.restoreState() + " " + Texts.stateOf(hem);
        } catch (IllegalStateException e) {
            return "none";
        }
    }
}
