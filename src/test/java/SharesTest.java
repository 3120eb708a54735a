/** Promises 21 to 24: share, lost, seed, drawn. */
public final class SharesTest {
    public static void main(String[] args) {
        share();
        shareErrors();
        lost();
        seed();
        drawn();
        Run.end("SharesTest");
    }

    private static void share(Run run, int note, int above, int below) {
        run.check("share(" + note + ", true)", run.notes().share(note, true), above);
        run.check("share(" + note + ", false)", run.notes().share(note, false), below);
    }

    private static void share() {
        Run one = Run.on("promise 21, one note", "AB1r05,i,C");
        share(one, 0, 2, 1);
        Run dead = Run.on("promise 21, nothing found", "A;i,i");
        share(dead, 0, 0, 1);
        share(dead, 1, 0, 1);
        // the second note finds only if the first one is there: half a reference each
        Run two = Run.on("promise 21, two notes", "AB1r05;i");
        share(two, 0, 3, 2);
        share(two, 1, 1, 2);
        // "same" finds by whichever present note stands before it: 1 reference of 3 is found by either, so each full
        // note gets 1 + 1/6 and the last note 2/3
        Run three = Run.on("promise 21, the last present note before", "AB1r05;CD2s10;i");
        share(three, 0, 7, 6);
        share(three, 1, 7, 6);
        share(three, 2, 2, 3);
        // another case with the same letter makes four short references dead again: with one of the full notes they
        // find 4, with both nothing
        Run ambiguous = Run.on("promise 21, a second case of the letter", "AB1r05;AC2s10;A,A,A,A");
        share(ambiguous, 0, 1, 3);
        share(ambiguous, 1, 1, 3);
        share(ambiguous, 2, 4, 3);
        Run later = Run.on("promise 21, a later case of the letter disturbs nothing", "AB1r05;A,A,A,A;A,A,A,A;AC2s10;CD3r01");
        share(later, 0, 5, 1);
        share(later, 1, 2, 1);
        share(later, 3, 1, 1);
        // the first note adds its own reference, but where both others are there it renames their case and four die
        Run renaming = Run.on("promise 21, below 0 by another name", "BA1r05;AB1r05;A,A,A,A");
        share(renaming, 0, -1, 3);
        share(renaming, 1, 5, 3);
        share(renaming, 2, 2, 3);
        Run between = Run.on("promise 21, below 0 by a dead note in between", "AB1r05;B;i");
        share(between, 0, 7, 6);
        share(between, 1, -1, 3);
        share(between, 2, 1, 6);
        Run mixed = Run.on("promise 21, short and above", "AB1r05;AC2s10;a0A,A,A,A");
        share(mixed, 1, 1, 2);
        // above references name the numbers that the notes have in the whole paper
        Run numbers = Run.on("promise 21, notes keep their numbers", "B;AB1r05;a1A");
        share(numbers, 0, 0, 1);
        share(numbers, 1, 3, 2);
        share(numbers, 2, 1, 2);
        // a case may have another name when its first full reference is missing
        Run names = Run.on("promise 21, cases of the present notes alone", "AB1r05;CD1r05;C");
        share(names, 0, 2, 3);
        share(names, 1, 7, 6);
        share(names, 2, 1, 6);
        Run joining = Run.on("promise 21, a note that joins two cases", "AB1r05,AC2s10;A,A,A;AD1r05=2s10");
        share(joining, 0, 3, 1);
        share(joining, 1, 1, 1);
        share(joining, 2, 2, 1);
        Run after = Run.on("promise 21, after an edit", "AB1r05;i");
        share(after, 0, 3, 2);
        after.due("move(0, 1, 1) = 1; share(0, true) = 0; share(1, true) = 1; undo() = 0; share(0, true) = 3; cut(1, 0) = 1; share(0, true) = 1;"
            + "share(1, true) = -1; wipe() = 8; paper() = 0; share(0, true) = -1");
        Run eight = Run.on("promise 21, eight notes", "AB1r05;i;i;i;i;i;i;i");
        share(eight, 0, 9, 2);
        share(eight, 1, 1, 2);
        share(eight, 7, 1, 2);
        Run eightMore = Run.on("promise 21, a chain of numbers", "AB1r05;a0A;a1A;a2A;a3A;a4A;a5A;a6A");
        share(eightMore, 7, 1, 8);
        share(eightMore, 0, 761, 280);
    }

    private static void shareErrors() {
        Run.on("promise 21, no such note", "AB1r05;i").due("share(2, true) = -1; share(-1, false) = -1; share(2147483647, true) = -1;"
            + "share(-2147483648, true) = -1; share(8, false) = -1");
    }

    private static void lost(Run run, int x, int above, int below) {
        run.check("lost(" + x + ", true)", run.notes().lost(x, true), above);
        run.check("lost(" + x + ", false)", run.notes().lost(x, false), below);
    }

    private static void lost() {
        Run empty = Run.fresh("promise 22, an empty paper");
        for (int x = 0; x <= 10; x++) lost(empty, x, 1, 1);
        Run right = Run.on("promise 22, never dead", "AB1r05;CD2s10");
        for (int x = 0; x <= 10; x++) lost(right, x, 1, 1);
        Run dead = Run.on("promise 22, dead where it is there", "A");
        lost(dead, 0, 0, 1);
        lost(dead, 1, 1, 10);
        lost(dead, 2, 1, 5);
        lost(dead, 5, 1, 2);
        lost(dead, 10, 1, 1);
        Run two = Run.on("promise 22, the second needs the first", "AB1r05;i");
        lost(two, 0, 1, 1);
        lost(two, 1, 91, 100);
        lost(two, 5, 3, 4);
        lost(two, 4, 19, 25);
        lost(two, 9, 91, 100);
        lost(two, 10, 1, 1);
        // right: none of the last note, or the first without the second
        Run ambiguous = Run.on("promise 22, a second case of the letter", "AB1r05;AC2s10;A");
        lost(ambiguous, 0, 0, 1);
        lost(ambiguous, 3, 297, 500);
        lost(ambiguous, 10, 1, 1);
        Run eight = Run.on("promise 22, eight dead notes", "A;A;A;A;A;A;A;A");
        lost(eight, 1, 1, 100000000);
        lost(eight, 9, 43046721, 100000000);
        lost(eight, 5, 1, 256);
        lost(eight, 0, 0, 1);
        eight.due("cut(0, 0) = 7; lost(1, false) = 10000000; undo() = 0; lost(1, false) = 100000000");
        Run.on("promise 22, out of range", "A").due("lost(-1, true) = -2; lost(11, false) = -2; lost(2147483647, true) = -2; lost(-2147483648, true) = -2");
    }

    private static void seed() {
        Run.fresh("promise 23").due("seed(9223372036854775807) = 0; seed(-9223372036854775808) = 9223372036854775807; seed(-1) = -9223372036854775808;"
            + "seed(-1) = -1; seed(0) = -1");
        Run.on("promise 23, drawn goes on from it", "AB1r05").due("seed(1) = 0; drawn(1) = 1; seed(1) = 7806831264735756412");
        Run.on("promise 23, it stays", "A;B").due("seed(12) = 0; move(0, 1, 0) = 2; keep(0) = 2; again(0) = 2; paper() = 2; share(0, true) = 0;"
            + "judge(1, 1010) = -9; seed(0) = 12");
    }

    private static void drawn() {
        Run.fresh("promise 24, without notes the seed goes on").due("drawn(1) = 0; seed(0) = 1442695040888963407; drawn(2) = 0;"
            + "seed(0) = 1876011003808476466; drawn(20) = 0");
        Run.on("promise 24, out of range", "AB1r05").due("drawn(0) = -2; drawn(21) = -2; drawn(-1) = -2; drawn(2147483647) = -2;"
            + "drawn(-2147483648) = -2; seed(0) = 0; drawn(1) = 1; seed(0) = 1442695040888963407; drawn(20) = 20");
        // with the seed 0, the first v is 167951807: of 2 notes, note 1 goes to 1; of 3 notes, note 2 goes to 2
        Run.on("promise 24, one move", "AB1r05;i").due("drawn(1) = 2; seed(0) = 1442695040888963407");
        Run.on("promise 24, nothing else is changed", "AB1r05;a0A;A,i").due("drawn(20) = 38; count(6) = 0; drawn(20) = 51; drawn(1) = 4")
            .prints(0, "AB1r05;a0A;A,i");
        for (int m = 1; m <= 20; m++) simulate("AB1r05;a0A;CD2s10,a1A;i;C", m, 1000L * m);
        for (int m = 1; m <= 20; m++) simulate("AB1r05;i;a0A;a1A;a2A;a3A;a4A,A;a7A", m, -1L << m);
    }

    /** The moves of drawn(), made one by one on another object. */
    private static void simulate(String text, int m, long seed) {
        Run run = Run.on("promise 24, " + m + " moves of " + text, text);
        Run other = Run.on("promise 24, the moves alone", text);
        run.notes().seed(seed);
        int notes = other.notes().count(1);
        int references = other.notes().count(2);
        long now = seed;
        long sum = 0;
        for (int i = 0; i < m; i++) {
            now = now * 6364136223846793005L + 1442695040888963407L;
            long v = Long.divideUnsigned(now, 1L << 33);
            int dead = other.notes().move((int) (v % notes), (int) (v / 16 % notes), (int) (v / 256 % 2));
            sum += references - dead;
        }
        run.check("drawn(" + m + ")", run.notes().drawn(m), sum);
        run.check("seed(0)", run.notes().seed(0), now);
        run.prints(0, text);
    }
}
