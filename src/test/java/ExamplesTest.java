/** The document's four examples, each on a new object, call by call. */
public final class ExamplesTest {
    public static void main(String[] args) {
        Run.fresh("example 1, a reference to the note before").due(
            "write(65) = 1; write(66) = 2; write(49) = 3; write(114) = 4; write(48) = 5; write(53) = 6; write(59) = 7;"
            + "write(105) = 8; write(64) = 9; write(48) = 10; write(55) = 11; paper() = 2; found(1, 0, 2) = 0; put(0, 0) = -3;"
            + "shorter(1, 0, 0) = 2; share(0, true) = 3");
        Run.fresh("example 2, a copy that is made shorter, and moved").due(
            "write(66) = 1; write(65) = 2; write(50) = 3; write(115) = 4; write(49) = 5; write(48) = 6; paper() = 1;"
            + "put(1, 1) = 2; respell(1, 0, 0) = 2; print(0, -1) = 8; move(0, 1, 1) = 1; found(0, 0, 1) = 3; undo() = 2;"
            + "lost(5, true) = 3; aCase(0, 2) = 2110");
        Run.fresh("example 3, references that find nothing").due(
            "write(65) = 1; write(44) = 2; write(97) = 3; write(48) = 4; write(65) = 5; paper() = 1; found(0, 0, 1) = 1;"
            + "found(0, 1, 1) = 5; judge(1, 4011L) = 0; judge(2, 50004015L) = -9; reference(0, 1, 2) = 0; see(0, 0, 1) = 1;"
            + "which(0) = 0; cut(0, 1) = 0; table(0) = -1; drawn(2) = 0");
        Run.fresh("example 4, where a text is wrong").due(
            "write(65) = 1; write(65) = 2; fault() = 1; wipe() = 2; write(65) = 1; write(66) = 2; write(49) = 3; write(114) = 4;"
            + "write(48) = 5; write(48) = 6; fault() = 5; paper() = -3; wipe() = 6; fault() = -9; again(0) = -3");
        Run.end("ExamplesTest");
    }
}
