/** Promises 25 to 27: keep, again, count. */
public final class SlotsTest {
    public static void main(String[] args) {
        keep();
        again();
        count();
        Run.end("SlotsTest");
    }

    private static void keep() {
        Run.on("promise 25", "AB1r05;A").due("keep(0) = 2; keep(1) = 2; keep(2) = -1; keep(-1) = -1; keep(2147483647) = -1; keep(-2147483648) = -1");
        Run.on("promise 25, in place of what it keeps", "AB1r05;A").due("keep(0) = 2; cut(0, 0) = 1; keep(0) = 1; undo() = 0; keep(1) = 2;"
            + "again(0) = 1").prints(0, "A").due("again(1) = 2").prints(0, "AB1r05;A");
        Run.on("promise 25, it is no edit and stops none", "AB1r05;A").due("cut(1, 0) = 1; keep(0) = 1; count(6) = 1; undo() = 0").prints(0, "AB1r05;A");
        Run.fresh("promise 25, an empty paper").due("keep(1) = 0; again(1) = 0; again(0) = -3").text("A").due("put(0, 0) = 1; again(1) = 0; count(1) = 0;"
            + "undo() = -3");
    }

    private static void again() {
        Run.on("promise 26, the slot keeps it", "AB1r05;a0A").due("keep(1) = 2; move(0, 1, 1) = 1; cut(0, 1) = 1; count(6) = 2; again(1) = 2; count(6) = 0;"
            + "undo() = -3").prints(0, "AB1r05;a0A").due("respell(1, 0, 1) = 0; again(1) = 2; count(6) = 0").prints(0, "AB1r05;a0A");
        Run.on("promise 26, errors in their order", "AB1r05;A").due("cut(1, 0) = 1; again(2) = -1; again(-1) = -1; again(0) = -3; again(1) = -3;"
            + "again(2147483647) = -1; keep(0) = 1; again(1) = -3; count(6) = 1; undo() = 0; again(0) = 1; count(1) = 1; count(3) = 1");
        Run.on("promise 26, what is found follows", "AB1r05;A").due("keep(0) = 2; cut(0, 0) = 1; found(0, 0, 1) = 1; lost(5, true) = 1; lost(5, false) = 2;"
            + "again(0) = 2; found(1, 0, 1) = 0; lost(5, true) = 3; lost(5, false) = 4; share(0, true) = 3");
        Run.on("promise 26, only the paper", "AB1r05").due("keep(0) = 1; see(0, 0, 1) = 1; seed(5) = 0; wipe() = 6; write(65) = 1; again(0) = 1;"
            + "count(0) = 1; count(7) = 1; seed(0) = 5; paper() = 1; again(0) = -3");
    }

    private static void count() {
        Run.on("promise 27", "AB1r05,AC1r05;A,i,B;CD2s10,DC3r03=2s10;i;a9A").due("count(0) = 44; count(1) = 5; count(2) = 9; count(3) = 2; count(4) = 3;"
            + "count(5) = 2; count(6) = 0; count(7) = 0; see(0, 0, 0) = 1; see(0, 0, 0) = 2; count(7) = 2; cut(4, 0) = 4; count(6) = 1; count(1) = 4;"
            + "count(2) = 8; count(4) = 2; cut(0, 1) = 3; count(3) = 1; count(5) = 1; count(6) = 2; count(4) = 4; wipe() = 44; count(0) = 0;"
            + "count(1) = 3; unsee() = 2; count(7) = 0; undo() = 1; count(6) = 1");
        Run.fresh("promise 27, out of range").due("count(8) = -2; count(-1) = -2; count(2147483647) = -2; count(-2147483648) = -2");
    }
}
