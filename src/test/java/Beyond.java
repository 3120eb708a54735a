/** Calls with notes and references that are not there, each next to the last ones that are. */
final class Beyond {
    /** Numbers which, multiplied by 4 or shifted, would wrap around to notes that are there. */
    private static final int[] FAR = {32, 64, 1 << 29, 1 << 30, -1 << 30, Integer.MAX_VALUE, Integer.MIN_VALUE};
    /** Sizes 1, 2, 4 and 2; all references find a case. */
    private static final String TEXT = "AB1r05;AB1r05,A;A,A,A,A;A,i";
    private static final int[] SIZES = {1, 2, 4, 2};

    private Beyond() {
    }

    /** A call on a note and a reference, for all of them that are there and those around them. */
    static void references(Sentence sentence, String call) {
        for (int note = -1; note <= SIZES.length; note++) {
            for (int reference = -5; reference <= 5; reference++) {
                boolean there = note >= 0 && note < SIZES.length && reference >= 0 && reference < SIZES[note];
                known(sentence, String.format(call, note, reference), there);
            }
        }
        for (int far : FAR) {
            known(sentence, String.format(call, far, 0), false);
            known(sentence, String.format(call, 0, far), false);
            known(sentence, String.format(call, far, far), false);
        }
        sentence.fresh().due(String.format(call, 0, 0) + " = -1");
    }

    /** A call on a note; the last note of a paper of 4 and of a paper of 8, and those around them. */
    static void notes(Sentence sentence, String call) {
        for (int note = -1; note <= SIZES.length; note++) {
            known(sentence, String.format(call, note), note >= 0 && note < SIZES.length);
        }
        for (int far : FAR) known(sentence, String.format(call, far), false);
        String eight = "AB1r05;i;i;i;i;i;i;i";
        answer(sentence.on(eight), String.format(call, 0), true);
        answer(sentence.on(eight), String.format(call, 7), true);
        answer(sentence.on(eight), String.format(call, 8), false);
        sentence.fresh().due(String.format(call, 0) + " = -1; " + String.format(call, -1) + " = -1");
    }

    private static void known(Sentence sentence, String call, boolean there) {
        answer(sentence.on(TEXT), call, there);
    }

    private static void answer(Run run, String call, boolean there) {
        long answer = run.answer(call);
        run.check(call + ", is it there", answer == PointingNotes.UNKNOWN ? 0 : 1, there ? 1 : 0);
        run.check(call + ", is it taken", there && answer < 0 && answer != PointingNotes.NONE ? 0 : 1, 1);
    }
}
