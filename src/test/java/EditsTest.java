/** Promises 7 to 11: put, cut, move, respell, undo. */
public final class EditsTest {
    private static final String ABOVES = "AB1r05;a0A,a1A,a2A,a3A;a4A,a5A,a6A,a7A;a8A,a9A";

    public static void main(String[] args) {
        put();
        cut();
        move();
        moveEverywhere();
        respell();
        undo();
        largestPaper();
        Run.end("EditsTest");
    }

    private static void put() {
        Run.on("promise 7, without mending", ABOVES).text("a1B").due("put(1, 0) = 5; count(6) = 1; count(0) = 3")
            .prints(0, "AB1r05;a1B;a0A,a1A,a2A,a3A;a4A,a5A,a6A,a7A;a8A,a9A");
        Run.on("promise 7, with mending, not in the note that is put nor of notes that are not there", ABOVES)
            .text("a0B,a1B,a2B,a3B").due("put(1, 1) = 5")
            .prints(0, "AB1r05;a0B,a1B,a2B,a3B;a0A,a2A,a3A,a4A;a4A,a5A,a6A,a7A;a8A,a9A");
        Run.on("promise 7, at the front", ABOVES).text("i").due("put(0, 1) = 5; found(0, 0, 1) = 3")
            .prints(0, "i;AB1r05;a1A,a2A,a3A,a4A;a4A,a5A,a6A,a7A;a8A,a9A");
        Run.on("promise 7, at the end", ABOVES).text("i@33").due("put(4, 1) = 5; found(4, 0, 1) = 3").prints(0, ABOVES + ";i@33");
        Run.fresh("promise 7, into an empty paper").text("AB1r05,i").due("put(1, 0) = -2; put(0, 1) = 1; count(6) = 1;"
            + "put(0, 0) = 2; put(1, 1) = 3; count(2) = 6; count(3) = 1");
        Run.on("promise 7, errors in their order", "A;A;A;A;A;A;A;A").due("put(9, 0) = -2; put(-1, 0) = -2; put(0, 2) = -2;"
            + "put(0, -1) = -2; put(8, 0) = -3; put(0, 0) = -3; wipe() = 15; put(0, 0) = -3; write(65) = 1; put(0, 0) = -4;"
            + "put(8, 1) = -4; write(65) = 2; put(8, 1) = -3; put(9, 1) = -2; count(6) = 0; count(1) = 8;"
            + "put(2147483647, 0) = -2; put(-2147483648, 1) = -2");
        Run.on("promise 7, the eighth note", "A;A;A;A;A;A;A").text("a6A").due("put(7, 1) = 8; found(7, 0, 1) = 1; put(7, 1) = -4");
        Run.on("promise 7, a text that is incomplete", "A").text("AB1r0").due("put(0, 0) = -3; count(1) = 1");
    }

    private static void cut() {
        Run.on("promise 8, without mending", ABOVES).due("cut(1, 0) = 3").prints(0, "AB1r05;a4A,a5A,a6A,a7A;a8A,a9A");
        Run.on("promise 8, with mending", ABOVES + ";a0A,a1A,a2A,a3A").due("cut(2, 1) = 4")
            .prints(0, "AB1r05;a0A,a1A,a2A,a2A;a8A,a9A;a0A,a1A,a2A,a2A");
        Run.on("promise 8, the first", ABOVES).due("cut(0, 1) = 3; count(3) = 0")
            .prints(0, "a0A,a0A,a1A,a2A;a4A,a5A,a6A,a7A;a8A,a9A");
        Run.on("promise 8, the last", ABOVES).due("cut(3, 1) = 3").prints(0, "AB1r05;a0A,a1A,a2A,a3A;a4A,a5A,a6A,a7A");
        Run.on("promise 8, until nothing is left", "AB1r05;i").due("cut(0, 1) = 1; found(0, 0, 1) = 3; cut(0, 0) = 0;"
            + "cut(0, 0) = -1; count(6) = 2; print(0, -1) = 0; undo() = 1; undo() = 0").prints(0, "AB1r05;i");
        Run.on("promise 8, errors in their order", "A;A").due("cut(2, 0) = -1; cut(-1, 5) = -1; cut(2, 2) = -1; cut(0, 2) = -2;"
            + "cut(1, -1) = -2; cut(2147483647, 0) = -1; cut(-2147483648, 0) = -1; count(1) = 2; count(6) = 0");
    }

    private static void move() {
        Run.on("promise 9, forward without mending", ABOVES).due("move(0, 2, 0) = 10")
            .prints(0, "a0A,a1A,a2A,a3A;a4A,a5A,a6A,a7A;AB1r05;a8A,a9A");
        Run.on("promise 9, forward with mending, in the moved note too", ABOVES).due("move(1, 3, 1) = 9")
            .prints(0, "AB1r05;a4A,a5A,a6A,a7A;a8A,a9A;a0A,a3A,a1A,a2A");
        Run.on("promise 9, back with mending", ABOVES).due("move(2, 0, 1) = 9")
            .prints(0, "a4A,a5A,a6A,a7A;AB1r05;a1A,a2A,a0A,a3A;a8A,a9A");
        Run.on("promise 9, back without mending", "A;AB1r05;a1A,a0A").due("move(1, 0, 0) = 0; found(1, 0, 0) = 0;"
            + "found(2, 0, 1) = 0; found(2, 1, 1) = 0; count(4) = 0; move(1, 0, 0) = 2").prints(0, "A;AB1r05;a1A,a0A");
        Run.on("promise 9, to its own number is an edit", "AB1r05;a0A;a1B").due("move(1, 1, 1) = 1; count(6) = 1; undo() = 0");
        Run.on("promise 9, the dead ones then", "AB1r05;i;i;i").due("move(0, 3, 1) = 3; move(3, 1, 1) = 1; move(1, 0, 0) = 0");
        Run.on("promise 9, errors in their order", "A;A").due("move(2, 0, 0) = -1; move(0, 2, 0) = -1; move(-1, 0, 2) = -1;"
            + "move(0, -1, 2) = -1; move(0, 1, 2) = -2; move(0, 1, -1) = -2; move(1, 1, 2) = -2; count(6) = 0;"
            + "move(2147483647, -2147483648, 0) = -1");
    }

    /** Moves between all notes of a full paper, with every digit named. */
    private static void moveEverywhere() {
        String[] notes = {"a0A", "a1A,a2A", "a3A", "a4A", "a5A,a6A,a7A", "a8A", "a9A", "B"};
        for (int from = 0; from < 8; from++) {
            for (int to = 0; to < 8; to++) {
                java.util.List<String> order = new java.util.ArrayList<>(java.util.List.of(notes));
                order.add(to, order.remove(from));
                String[] mended = new String[8];
                for (int i = 0; i < 8; i++) {
                    StringBuilder note = new StringBuilder(order.get(i));
                    for (int j = 0; j < note.length(); j++) {
                        int named = note.charAt(j) - '0';
                        if (named >= 0 && named < 8) note.setCharAt(j, (char) ('0' + order.indexOf(notes[named])));
                    }
                    mended[i] = note.toString();
                }
                String title = "promise 9, from " + from + " to " + to;
                Run run = Run.on(title, String.join(";", notes));
                run.due("move(" + from + ", " + to + ", 1) = 11").prints(0, String.join(";", mended));
                run.due("undo() = 0; move(" + from + ", " + to + ", 0) = 11").prints(0, String.join(";", order));
            }
        }
    }

    private static void respell() {
        Run.on("promise 10, by same", "AB1r05;AB1r05@07").due("respell(1, 0, 0) = 2; count(6) = 1").prints(0, "AB1r05;i@07");
        Run.on("promise 10, by short", "AB1r05;CD2s10;AB1r05").due("respell(2, 0, 0) = 1").prints(0, "AB1r05;CD2s10;A");
        Run.on("promise 10, by above", "AB1r05;AC2s10;CD3r01;AB1r05@08").due("respell(3, 0, 0) = 3")
            .prints(0, "AB1r05;AC2s10;CD3r01;a0A@08");
        Run.on("promise 10, by the first full reference", "AB1r05=2s10,AC3r01;CD1r05@50").due("respell(1, 0, 0) = 0")
            .prints(0, "AB1r05=2s10,AC3r01;AB1r05=2s10@50");
        Run.on("promise 10, a full reference of its own", "AB1r05;CD2s10").due("respell(0, 0, 0) = 0; respell(1, 0, 0) = 0;"
            + "count(6) = 2").prints(0, "AB1r05;CD2s10");
        Run.on("promise 10, made full", "AB1r05=2s10@77;i;A@66;a0A@55").due("respell(1, 0, 1) = 0; respell(2, 0, 1) = 0;"
            + "respell(3, 0, 1) = 0; respell(0, 0, 1) = 0; count(6) = 4; count(3) = 1")
            .prints(0, "AB1r05=2s10@77;AB1r05=2s10;AB1r05=2s10@66;AB1r05=2s10@55");
        Run.on("promise 10, another full reference made like the first, which parts the case", "AB1r05;CD1r05=2s10@09;EF2s10")
            .due("count(3) = 1; respell(1, 0, 1) = 0; count(3) = 2").prints(0, "AB1r05;AB1r05@09;EF2s10");
        Run.on("promise 10, a dead reference", "A,i,AB1r05").due("respell(0, 0, 0) = -3; respell(0, 0, 1) = -3; respell(0, 1, 0) = -3;"
            + "count(6) = 0; respell(0, 2, 0) = 0; count(6) = 1");
        Run.on("promise 10, errors in their order", "A").due("respell(1, 0, 2) = -1; respell(0, 1, 2) = -1; respell(-1, 0, 0) = -1;"
            + "respell(0, -1, 0) = -1; respell(0, 0, 2) = -2; respell(0, 0, -1) = -2; respell(0, 0, 0) = -3; count(6) = 0;"
            + "respell(2147483647, 2147483647, 0) = -1");
    }

    private static void undo() {
        Run.on("promise 11, each edit", "AB1r05;a0A;A").text("i").due("put(0, 1) = 4; cut(2, 1) = 3; move(0, 2, 1) = 0;"
            + "respell(1, 0, 1) = 0; count(6) = 4").prints(0, "AB1r05;AB1r05;i")
            .due("undo() = 3").prints(0, "AB1r05;A;i").due("undo() = 2").prints(0, "i;AB1r05;A").due("undo() = 1")
            .prints(0, "i;AB1r05;a1A;A").due("undo() = 0").prints(0, "AB1r05;a0A;A").due("undo() = -3; count(6) = 0");
        Run run = Run.on("promise 11, the latest 14", "AB1r05;a0A");
        for (int i = 1; i <= 20; i++) run.due("move(0, 1, 1) = " + i % 2 + "; count(6) = " + Math.min(i, 14));
        for (int i = 13; i >= 0; i--) run.due("undo() = " + i);
        run.due("undo() = -3").prints(0, "AB1r05;a0A");
        run.due("move(0, 1, 0) = 1; undo() = 0; undo() = -3");
        Run odd = Run.on("promise 11, 15 edits", "AB1r05;A");
        odd.due("cut(1, 0) = 1");
        for (int i = 0; i < 14; i++) odd.due("move(0, 0, 0) = 0");
        for (int i = 13; i >= 0; i--) odd.due("undo() = " + i);
        odd.due("undo() = -3").prints(0, "AB1r05");
        Run.on("promise 11, new edits after an undo", "AB1r05;A;B").due("cut(2, 0) = 2; cut(1, 0) = 1; undo() = 1; cut(0, 0) = 1;"
            + "count(6) = 2").prints(0, "A").due("undo() = 1").prints(0, "AB1r05;A").due("undo() = 0").prints(0, "AB1r05;A;B");
        Run.on("promise 11, only the paper", "AB1r05").text("i").due("put(1, 0) = 2; keep(0) = 2; see(0, 0, 1) = 1; seed(5) = 0;"
            + "undo() = 0; count(7) = 1; seed(5) = 5; count(0) = 1; again(0) = 2");
    }

    /** The largest paper: 32 cases, two reports and a pin each, in 479 characters. */
    private static void largestPaper() {
        Run run = Run.fresh("the largest paper");
        for (int note = 0; note < 8; note++) run.text(largestNote(note)).due("put(" + note + ", 1) = " + (note + 1));
        run.due("count(2) = 32; count(3) = 32; count(4) = 0; aCase(31, 2) = 2046; table(0) = 31; table(31) = 0; table(32) = -1;"
            + "aCase(31, 5) = 128; aCase(31, 3) = 2; share(7, true) = 4; share(7, false) = 1; found(7, 3, 2) = 3;"
            + "found(7, 0, 2) = 0; found(7, 3, 0) = 31; drawn(20) = 640; print(0, -1) = 479; print(1, -1) = 479; which(0) = 32;"
            + "see(2, 7, 1) = 1; which(1) = 28; print(0, 478) = 57; print(1, 479) = -9");
        largestPaperPrinted(0, 239);
        largestPaperPrinted(240, 478);
    }

    private static String largestNote(int note) {
        StringBuilder text = new StringBuilder();
        for (int i = 0; i < 4; i++) {
            text.append(i > 0 ? "," : "").append("FE").append(9 - note).append("r4").append(9 - i);
            text.append("=").append(9 - note).append("s9").append(i).append("@99");
        }
        return text.toString();
    }

    /** A part of 479 characters: all of them would be more calls than an object is used for. */
    private static void largestPaperPrinted(int from, int to) {
        Run run = Run.fresh("the largest paper, printed").text(largestNote(0));
        for (int note = 0; note < 8; note++) run.due("put(" + note + ", 1) = " + (note + 1));
        String all = String.join(";", java.util.Collections.nCopies(8, largestNote(0)));
        for (int place = from; place <= to; place++) run.due("print(0, " + place + ") = " + (int) all.charAt(place));
    }
}
