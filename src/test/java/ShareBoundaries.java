import java.math.BigInteger;

/** The boundary cases of shares, losses and draws: the description's parts on partial papers and fractions, and promises 21 to 24. */
final class ShareBoundaries {
    private static final String FACTOR = "6364136223846793005", STEP = "1442695040888963407";
    private static final String CHAIN = "AB1r05;a0A;a1A;a2A;a3A;a4A;a5A;a6A";

    private ShareBoundaries() {
    }

    static void all() {
        partialPapers();
        casesOfPartialPapers();
        fractions();
        share();
        lost();
        seed();
        newSeeds();
        chosenMoves();
        drawn();
    }

    private static void share(Sentence sentence, String text, int note, int above, int below) {
        sentence.on(text).due("share(" + note + ", true) = " + above + "; share(" + note + ", false) = " + below);
    }

    private static void lost(Sentence sentence, String text, int x, int above, int below) {
        sentence.on(text).due("lost(" + x + ", true) = " + above + "; lost(" + x + ", false) = " + below);
    }

    private static void partialPapers() {
        Sentence shares = Sentence.of(21, "For shares and losses, only some of the notes are present.");
        share(shares, "AB1r05;i", 0, 3, 2);
        share(shares, "AB1r05;i", 1, 1, 2);
        lost(Sentence.of(22, "For shares and losses, only some of the notes are present."), "AB1r05;i", 5, 3, 4);
        String words = "They keep their numbers; all other notes are treated as if they did not exist, and the note before a note is the last present one before it.";
        Sentence inShares = Sentence.of(21, words);
        share(inShares, "B;AB1r05;a1A", 0, 0, 1);
        share(inShares, "B;AB1r05;a1A", 1, 3, 2);
        share(inShares, "B;AB1r05;a1A", 2, 1, 2);
        share(inShares, "AB1r05;CD2s10;i", 0, 7, 6);
        share(inShares, "AB1r05;CD2s10;i", 1, 7, 6);
        share(inShares, "AB1r05;CD2s10;i", 2, 2, 3);
        share(inShares, "AB1r05;CD2s10,EF3r03;i", 0, 7, 6);
        share(inShares, "AB1r05;CD2s10,EF3r03;i", 1, 5, 3);
        share(inShares, "AB1r05;CD2s10,EF3r03;i", 2, 1, 6);
        share(inShares, "AB1r05;B;i", 1, -1, 3);
        Sentence inLosses = Sentence.of(22, words);
        lost(inLosses, "B;AB1r05;a1A", 5, 3, 8);
        lost(inLosses, "AB1r05;CD2s10;i", 5, 7, 8);
        // dead references: the last note there without the first one, or with the second one before it
        lost(inLosses, "AB1r05;CD2s10,EF3r03;i", 5, 5, 8);
        lost(inLosses, "AB1r05;CD2s10,EF3r03;i", 1, 181, 1000);
    }

    private static void casesOfPartialPapers() {
        String words = "Cases are determined by the full references of the present notes.";
        Sentence inShares = Sentence.of(21, words);
        share(inShares, "AB1r05;CD1r05;C", 0, 2, 3);
        share(inShares, "AB1r05;CD1r05;C", 1, 7, 6);
        share(inShares, "AB1r05;CD1r05;C", 2, 1, 6);
        share(inShares, "AB1r05,AC2s10;A,A,A;AD1r05=2s10", 2, 2, 1);
        // dead: the last note there, and the first one there or the second one missing
        lost(Sentence.of(22, words), "AB1r05;CD1r05;C", 5, 5, 8);
    }

    private static void fractions() {
        String words = "Fractions are in lowest terms with a denominator above 0 (0 is 0 / 1); a parameter upper is true for the numerator, which may be negative,"
            + " and false for the denominator.";
        Sentence shares = Sentence.of(21, words);
        share(shares, "A", 0, 0, 1);
        share(shares, "A;A;A;A;A;A;A;A", 7, 0, 1);
        share(shares, "AB1r05;i;i;i;i;i;i;i", 0, 9, 2);
        share(shares, "AB1r05;i;i;i;i;i;i;i", 7, 1, 2);
        share(shares, CHAIN, 0, 761, 280);
        share(shares, CHAIN, 1, 481, 280);
        share(shares, CHAIN, 7, 1, 8);
        share(shares, "AB1r05;B;i", 1, -1, 3);
        share(shares, "BA1r05;AB1r05;A,A,A,A", 0, -1, 3);
        share(shares, "AB1r05,i,i,i;AB1r05,i,i,i;AB1r05,i,i,i;AB1r05,i,i,i;AB1r05,i,i,i;AB1r05,i,i,i;AB1r05,i,i,i;AB1r05,i,i,i", 7, 4, 1);
        Sentence losses = Sentence.of(22, words);
        lost(losses, "A", 0, 0, 1);
        lost(losses, "A", 10, 1, 1);
        lost(losses, "A", 2, 1, 5);
        lost(losses, "A", 3, 3, 10);
        lost(losses, "A", 5, 1, 2);
        String eight = "A;A;A;A;A;A;A;A";
        lost(losses, eight, 0, 0, 1);
        lost(losses, eight, 1, 1, 100000000);
        lost(losses, eight, 2, 1, 390625);
        lost(losses, eight, 5, 1, 256);
        lost(losses, eight, 8, 65536, 390625);
        lost(losses, eight, 9, 43046721, 100000000);
        lost(losses, eight, 10, 1, 1);
    }

    private static void share() {
        Sentence mean = Sentence.of(21, "Returns the mean increase of the number of references that find a case by a note (its Shapley value): all notes are added one"
            + " after the other to a partial paper without notes, all orders being equally likely; the increase is the number of references that find"
            + " a case after the note was added minus that before, on the average.");
        share(mean, "AB1r05,i,C", 0, 2, 1);
        share(mean, "AB1r05,i,i,A", 0, 4, 1);
        share(mean, "AB1r05;AC2s10;A,A,A,A", 0, 1, 3);
        share(mean, "AB1r05;AC2s10;A,A,A,A", 2, 4, 3);
        share(mean, CHAIN, 3, 743, 840);
        mean.on("AB1r05;i").due("share(0, true) = 3; move(0, 1, 1) = 1; share(0, true) = 0; share(1, true) = 1; undo() = 0; share(0, true) = 3; cut(1, 0) = 1;"
            + "share(0, true) = 1; share(0, false) = 1");
        Sentence upper = Sentence.of(21, "`upper`: true for the numerator, false for the denominator");
        share(upper, "AB1r05;i", 0, 3, 2);
        Sentence unknown = Sentence.of(21, "UNKNOWN if there is no such note.");
        Beyond.notes(unknown, "share(%d, true)");
        Beyond.notes(unknown, "share(%d, false)");
    }

    private static void lost() {
        Sentence dead = Sentence.of(22, "Returns the probability that a partial paper has no dead reference, if each note is missing with the probability x / 10,"
            + " independently.");
        for (int x = 0; x <= 10; x++) {
            lost(dead, "", x, 1, 1);
            lost(dead, "AB1r05;CD2s10", x, 1, 1);
        }
        lost(dead, "AB1r05;i", 0, 1, 1);
        lost(dead, "AB1r05;i", 1, 91, 100);
        lost(dead, "AB1r05;i", 4, 19, 25);
        lost(dead, "AB1r05;i", 9, 91, 100);
        lost(dead, "AB1r05;i", 10, 1, 1);
        lost(dead, "AB1r05;AC2s10;A", 3, 297, 500);
        lost(dead, "AB1r05,B;i", 1, 1, 100);
        lost(Sentence.of(22, "`upper`: true for the numerator, false for the denominator"), "A", 7, 7, 10);
        Sentence.of(22, "`x`: tenths, 0 to 10").on("A").due("lost(-1, true) = -2; lost(0, true) = 0; lost(1, true) = 1; lost(1, false) = 10; lost(10, true) = 1;"
            + "lost(10, false) = 1; lost(11, true) = -2");
        Sentence.of(22, "OUTSIDE if x is out of range.").on("A").due("lost(-1, true) = -2; lost(-1, false) = -2; lost(11, true) = -2; lost(11, false) = -2;"
            + "lost(2147483647, true) = -2; lost(-2147483648, false) = -2; lost(0, false) = 1; lost(10, false) = 1");
    }

    private static void seed() {
        Sentence.of(23, "Sets the seed.").fresh().due("seed(1) = 0; drawn(1) = 0; seed(0) = 7806831264735756412");
        Sentence.of(23, "`v`: the new seed").fresh().due("seed(9223372036854775807) = 0; seed(-9223372036854775808) = 9223372036854775807;"
            + "seed(4294967296) = -9223372036854775808; seed(-1) = 4294967296; seed(0) = -1; seed(0) = 0");
        Sentence.of(23, "Returns the seed before.").on("A").due("seed(5) = 0; seed(5) = 5; move(0, 0, 0) = 1; undo() = 0; keep(0) = 1; again(0) = 1; paper() = 1;"
            + "lost(5, true) = 1; judge(1, 1000) = -9; seed(6) = 5; drawn(0) = -2; seed(7) = 6");
    }

    private static long after(long seed) {
        return BigInteger.valueOf(seed).multiply(new BigInteger(FACTOR)).add(new BigInteger(STEP)).longValue();
    }

    private static void newSeeds() {
        Sentence overflow = Sentence.of(24, "For each of them, the seed becomes seed * 6364136223846793005 + 1442695040888963407 (with overflow);");
        for (long seed : new long[] {0, 1, 2, 3, -1, Long.MAX_VALUE, Long.MIN_VALUE, 1L << 32, -1L << 32, 6364136223846793005L}) {
            overflow.fresh().due("seed(" + seed + ") = 0; drawn(1) = 0; seed(0) = " + after(seed));
            overflow.on("AB1r05").due("seed(" + seed + ") = 0; drawn(2) = 2; seed(0) = " + after(after(seed)));
        }
        overflow.fresh().due("drawn(1) = 0; seed(1) = 1442695040888963407; drawn(1) = 0; seed(2) = 7806831264735756412; drawn(1) = 0; seed(0) = -4275776585127002199");
    }

    /** The seed after which the next seed is this one. */
    private static long before(long next) {
        BigInteger all = BigInteger.ONE.shiftLeft(64);
        return BigInteger.valueOf(next).subtract(new BigInteger(STEP)).multiply(new BigInteger(FACTOR).modInverse(all)).mod(all).longValue();
    }

    /** Draws one move with the upper bits v, the lower 33 bits all 0 and all 1, and compares with that move. */
    private static void drawsOne(Sentence sentence, String text, long v) {
        for (long low : new long[] {0, (1L << 33) - 1}) {
            Run drawn = sentence.on(text);
            Run moved = sentence.on(text);
            int n = moved.notes().count(1);
            int dead = moved.notes().move((int) (v % n), (int) (v / 16 % n), (int) (v / 256 % 2));
            drawn.due("seed(" + before(v << 33 | low) + ") = 0; drawn(1) = " + (moved.notes().count(2) - dead) + "; seed(0) = " + (v << 33 | low));
        }
    }

    private static void chosenMoves() {
        Sentence upper = Sentence.of(24, "let v be the upper 31 bits of the new seed, as a number.");
        Sentence moved = Sentence.of(24, "If there are n notes, n above 0, note v modulo n is moved to the number (v / 16) modulo n with mend (v / 256) modulo 2"
            + " (quotients rounded down).");
        String[] papers = {"AB1r05", "AB1r05;a0A", "CD2r05;AB1r05;a1A", "AB1r05;i;i;C", "AB1r05;i;a0A;A;a2A", "AB1r05;AC2s10;a0A;a1A;i;a4A", "AB1r05;a0A;a1A;i;A;a4A;i",
            CHAIN, "AB1r05;i;i;i;CD2s10;i;i;a4C"};
        for (String paper : papers) {
            for (long v = 0; v < 600; v++) drawsOne(moved, paper, v);
            for (long top : new long[] {1L << 30, 1L << 31}) {
                for (long v = top - 40; v < Math.min(top + 40, 1L << 31); v++) drawsOne(upper, paper, v);
            }
        }
        // by hand: of two notes, v = 1 and v = 16 change them, v = 0 and v = 17 do not
        int[] found = {2, 1, 1, 2};
        long[] values = {0, 1, 16, 17};
        for (int i = 0; i < 4; i++) moved.on("AB1r05;i").due("seed(" + before(values[i] << 33) + ") = 0; drawn(1) = " + found[i]);
        // by hand: note 0 goes to 1, without mending by v = 18 and with mending by v = 258
        moved.on("CD2r05;AB1r05;a1A").due("seed(" + before(18L << 33) + ") = 0; drawn(1) = 2; seed(" + before(258L << 33) + ") = " + (18L << 33) + "; drawn(1) = 3");
        moved.fresh().due("drawn(20) = 0");
    }

    /** The moves of drawn(), made one by one on another object. */
    private static void drawsMany(Sentence sentence, String text, int m, long seed) {
        Run drawn = sentence.on(text);
        Run moved = sentence.on(text);
        int n = moved.notes().count(1);
        long now = seed;
        int sum = 0;
        for (int i = 0; i < m; i++) {
            now = after(now);
            long v = now >>> 33;
            int dead = n == 0 ? 0 : moved.notes().move((int) (v % n), (int) (v / 16 % n), (int) (v / 256 % 2));
            sum += moved.notes().count(2) - dead;
        }
        drawn.due("seed(" + seed + ") = 0; drawn(" + m + ") = " + sum + "; seed(0) = " + now);
    }

    private static void drawn() {
        Sentence simulated = Sentence.of(24, "Simulates m moves on a copy of the paper.");
        Sentence follow = Sentence.of(24, "The moves follow one another.");
        for (long seed : new long[] {0, 77, -5, Long.MAX_VALUE, Long.MIN_VALUE}) {
            for (int m = 1; m <= 20; m++) drawsMany(m == 1 ? simulated : follow, CHAIN, m, seed);
            drawsMany(follow, "AB1r05;a0A;CD2s10,a1A;i;C", 20, seed);
        }
        Sentence.of(24, "Nothing is changed except the seed.").on("AB1r05;a0A;A,i").due("move(0, 0, 0) = 0; keep(1) = 3; see(0, 0, 1) = 1; drawn(20) = 38;"
            + "count(0) = 14; count(1) = 3; count(4) = 0; count(6) = 1; count(7) = 1").prints(0, "AB1r05;a0A;A,i").due("undo() = 0; again(1) = 3; again(0) = -3")
            .prints(0, "AB1r05;a0A;A,i");
        Sentence.of(24, "`m`: the number of moves, 1 to 20").on("AB1r05").due("drawn(0) = -2; drawn(1) = 1; drawn(20) = 20; drawn(21) = -2");
        Sentence sum = Sentence.of(24, "Returns the sum, over all moves, of the number of references that find a case after the move (0 without notes);");
        sum.fresh().due("drawn(1) = 0; drawn(20) = 0");
        sum.on("A;B,C").due("drawn(1) = 0; drawn(20) = 0");
        sum.on("AB1r05,i,i,i;AB1r05,i,i,i;AB1r05,i,i,i;AB1r05,i,i,i;AB1r05,i,i,i;AB1r05,i,i,i;AB1r05,i,i,i;AB1r05,i,i,i").due("drawn(1) = 32; drawn(20) = 640");
        Sentence.of(24, "OUTSIDE if m is out of range.").on("AB1r05").due("drawn(0) = -2; drawn(-1) = -2; drawn(21) = -2; drawn(2147483647) = -2;"
            + "drawn(-2147483648) = -2; seed(0) = 0; drawn(1) = 1; drawn(20) = 20");
    }
}
