/** Promises 1 to 6: a new object, write, wipe, fault, paper, reference. */
public final class PaperTest {
    public static void main(String[] args) {
        newObject();
        write();
        wipe();
        faultsOfForms();
        faultsOfReportsAndPins();
        faultsOfSeparators();
        paper();
        reference();
        Run.end("PaperTest");
    }

    private static void newObject() {
        Run.fresh("promise 1, all is empty").due(
            "count(0) = 0; count(1) = 0; count(2) = 0; count(3) = 0; count(4) = 0; count(5) = 0; count(6) = 0; count(7) = 0;"
            + "fault() = -9; undo() = -3; again(0) = -3; again(1) = -3; table(0) = -1; print(0, -1) = 0; print(1, -1) = 0;"
            + "which(0) = 0; which(1) = -9; lost(0, true) = 1; lost(10, false) = 1; share(0, true) = -1");
        Run.fresh("promise 1, the seed is 0").due("seed(7) = 0; seed(0) = 7");
        Run other = Run.on("promise 1, objects are apart", "AB1r05");
        Run.fresh("promise 1, objects are apart").due("count(1) = 0; count(0) = 0; write(65) = 1");
        other.due("count(1) = 1; count(0) = 6");
    }

    private static void write() {
        Run.fresh("promise 2, range").due("write(0) = 1; write(255) = 2; write(-1) = -2; write(256) = -2; write(2147483647) = -2;"
            + "write(-2147483648) = -2; count(0) = 2");
        Run run = Run.fresh("promise 2, 120 bytes");
        for (int i = 1; i <= 120; i++) run.check("write(65)", run.notes().write(65), i);
        run.due("write(65) = -4; write(256) = -2; write(-1) = -2; count(0) = 120; wipe() = 120; write(65) = 1");
        Run.on("promise 2, the paper stays", "A").due("write(44) = 2; count(2) = 1; print(0, -1) = 1");
    }

    private static void wipe() {
        Run.fresh("promise 3").due("wipe() = 0; write(65) = 1; write(66) = 2; wipe() = 2; count(0) = 0; wipe() = 0; fault() = -9");
        Run.on("promise 3, the paper stays", "AB1r05;i").due("wipe() = 8; count(1) = 2; found(1, 0, 0) = 0");
    }

    private static void fault(String text, int due) {
        Run run = Run.fresh("promise 4, " + text).text(text);
        run.check("fault()", run.notes().fault(), due);
        run.check("fault() again", run.notes().fault(), due);
        run.check("count(0)", run.notes().count(0), text.length());
        int notes = text.isEmpty() ? 0 : text.split(";").length;
        run.check("paper()", run.notes().paper(), due == PointingNotes.NONE ? notes : PointingNotes.STATE);
    }

    private static void faultsOfForms() {
        for (String right : new String[] {"", "A", "F", "i", "a0A", "a9F", "A@01", "i@99", "a5C@10", "AB1r01", "FA9s99", "CD5r10=3s20",
            "CD5s10=3r20", "CD5s10=3r20@77", "AB1r10@09"}) fault(right, PointingNotes.NONE);
        fault("G", 0);
        fault("@", 0);
        fault("b", 0);
        fault("I", 0);
        fault("1", 0);
        fault(",", 0);
        fault(";", 0);
        fault("=", 0);
        fault(" ", 0);
        fault("AA", 1);
        fault("AG", 1);
        fault("Aa", 1);
        fault("A1", 1);
        fault("A=", 1);
        fault("ABC", 2);
        fault("AB,", 2);
        fault("AB@", 2);
        fault("AB", 2);
        fault("FF", 1);
        fault("FE", 2);
        fault("ii", 1);
        fault("iA", 1);
        fault("a", 1);
        fault("aA", 1);
        fault("a:A", 1);
        fault("a/A", 1);
        fault("a3", 2);
        fault("a3G", 2);
        fault("a3a", 2);
        fault("a33A", 2);
        fault("a3AB", 3);
        fault("a3A1r01", 3);
        fault("AB1r05" + (char) 255, 6);
        fault("" + (char) 0, 0);
        fault("A" + (char) 193, 1);
    }

    private static void faultsOfReportsAndPins() {
        fault("AB0r10", 2);
        fault("ABr10", 2);
        fault("AB1", 3);
        fault("AB1t10", 3);
        fault("AB11r10", 3);
        fault("AB1r", 4);
        fault("AB1rx", 4);
        fault("AB1r1", 5);
        fault("AB1r1,", 5);
        fault("AB1r00", 5);
        fault("AB1s00", 5);
        fault("AB1r0x", 5);
        fault("AB1r100", 6);
        fault("AB1r10=", 7);
        fault("AB1r10=0s10", 7);
        fault("AB1r10=1r10", 8);
        fault("AB1s10=1s10", 8);
        fault("AB1s10=1r", 9);
        fault("AB1r10=1s00", 10);
        fault("AB1r10=1s1", 10);
        fault("AB1r10=1s10=2r10", 11);
        fault("AB1r10=1s101", 11);
        fault("AB1r10@", 7);
        fault("AB1r10@1", 8);
        fault("AB1r10@00", 8);
        fault("AB1r10@x0", 7);
        fault("AB1r10@100", 9);
        fault("AB1r10@10@10", 9);
        fault("AB1r10@10=1s10", 9);
        fault("A@", 2);
        fault("A@0", 3);
        fault("A@00", 3);
        fault("A@10B", 4);
        fault("i@A", 2);
        fault("a0A@00", 5);
    }

    private static void faultsOfSeparators() {
        fault("A,", 2);
        fault("A;", 2);
        fault("A,,", 2);
        fault("A;;", 2);
        fault("A,;", 2);
        fault("A;,", 2);
        fault("A,A,A,A", PointingNotes.NONE);
        fault("A,A,A,A,", 7);
        fault("A,A,A,A,A", 7);
        fault("A,A,A,A;A,A,A,A", PointingNotes.NONE);
        fault("A,A,A,A;A,A,A,A,", 15);
        fault("A;A;A;A;A;A;A;A", PointingNotes.NONE);
        fault("A;A;A;A;A;A;A;A;", 15);
        fault("A;A;A;A;A;A;A;A;A", 15);
        fault("A;A;A;A;A;A;A;A,A,A,A", PointingNotes.NONE);
        fault("A;A;A;A;A;A;A;A,A,A,A,", 21);
        fault("A;A;A;A;A;A;A;A,A,A,A;", 21);
        fault("A,A,A,A;A,A,A,A;A,A,A,A;A,A,A,A;A,A,A,A;A,A,A,A;A,A,A,A;A,A,A,A", PointingNotes.NONE);
        fault("AG;A@00", 1);
        // a text of 120 bytes that is only incomplete: a paper may be longer than the buffer
        String long119 = "CD5s10=3r20@77,CD5s10=3r20@77,CD5s10=3r20@77,CD5s10=3r20@77;"
            + "CD5s10=3r20@77,CD5s10=3r20@77,CD5s10=3r20@77,CD5s10=3r20@77";
        fault(long119, PointingNotes.NONE);
        fault(long119 + ";", 120);
        fault(long119 + ",", 119);
    }

    private static void paper() {
        Run.on("promise 5, the text stays", "AB1r05;i@07").due("count(0) = 11; count(1) = 2; paper() = 2; fault() = -9")
            .prints(0, "AB1r05;i@07");
        Run.on("promise 5, a fault changes nothing", "AB1r05;A").due("cut(1, 0) = 1; keep(1) = 1; write(65) = 9; write(65) = 10;"
            + "paper() = -3; count(1) = 1; count(6) = 1; again(1) = 1; count(6) = 0").prints(0, "AB1r05");
        Run.on("promise 5, edits and slots go, observations and seed stay", "AB1r05;A").due("cut(1, 0) = 1; keep(0) = 1;"
            + "keep(1) = 1; see(0, 0, 1) = 1; seed(77) = 0; paper() = 2; undo() = -3; count(6) = 0; again(0) = -3; again(1) = -3;"
            + "count(7) = 1; which(0) = 1; seed(0) = 77");
        Run.on("promise 5, an empty text", "AB1r05;A").due("wipe() = 8; paper() = 0; count(1) = 0; count(3) = 0; print(0, -1) = 0");
        Run.on("promise 5, 8 notes of 4", "A,A,A,A;A,A,A,A;A,A,A,A;A,A,A,A;A,A,A,A;A,A,A,A;A,A,A,A;A,A,A,A")
            .due("count(1) = 8; count(2) = 32; count(4) = 32; reference(7, 3, 0) = 1; reference(7, 4, 0) = -1");
        Run.on("promise 5, a smaller paper in place of a larger one", "AB1r05,CD2s10,i;A").text("i")
            .due("paper() = 1; count(2) = 1; reference(0, 1, 0) = -1; reference(1, 0, 0) = -1; found(0, 0, 1) = 3");
    }

    private static void reference() {
        Run.on("promise 6", "AB1r05@06,CD2s10=3r99,E,i;a0A@99,a9F,i@01").due(
            "reference(0, 0, 0) = 0; reference(0, 1, 0) = 0; reference(0, 2, 0) = 1; reference(0, 3, 0) = 2; reference(1, 0, 0) = 3;"
            + "reference(0, 0, 1) = 6; reference(0, 1, 1) = -9; reference(0, 2, 1) = -9; reference(1, 0, 1) = 99;"
            + "reference(1, 2, 1) = 1; reference(0, 0, 2) = -9; reference(0, 2, 2) = -9; reference(0, 3, 2) = -9;"
            + "reference(1, 0, 2) = 0; reference(1, 1, 2) = 9; reference(1, 2, 2) = -9");
        Run.on("promise 6, errors", "AB1r05;A,A").due(
            "reference(0, 0, 3) = -2; reference(0, 0, -1) = -2; reference(0, 1, 0) = -1; reference(0, 1, 9) = -1;"
            + "reference(2, 0, 0) = -1; reference(-1, 0, 0) = -1; reference(0, -1, 0) = -1; reference(1, 2, 0) = -1;"
            + "reference(2147483647, 2147483647, 0) = -1; reference(-2147483648, -2147483648, 7) = -1; reference(0, 4, 0) = -1;"
            + "reference(1, 1, 2147483647) = -2");
    }
}
