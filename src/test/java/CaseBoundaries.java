/** The boundary cases of cases: the description's part on them, and promises 13 and 14. */
final class CaseBoundaries {
    private CaseBoundaries() {
    }

    static void all() {
        joined();
        longestChain();
        numbered();
        named();
        clashing();
        properties();
        propertiesAtTheirLimits();
        caseErrors();
        sorted();
        table();
    }

    private static void joined() {
        Sentence same = Sentence.of(12, "Two full references cite the same case if they have a report in common, or if they are connected by a chain of full"
            + " references of which each has a report in common with the next one.");
        for (String one : new String[] {"AB1r05", "AB1r05=2s10", "AB2s10=1r05"}) {
            for (String two : new String[] {"CD1r05", "CD1r05=3s11", "CD3s11=1r05"}) same.on(one + ";" + two).due("count(3) = 1; found(1, 0, 0) = 0");
        }
        same.on("AB1r05=2s10;CD3r05=2s10").due("count(3) = 1");
        for (String other : new String[] {"AB2r05", "AB9r05", "AB1s05", "AB1r04", "AB1r06", "AB1r15", "AB1r50", "AB1s05=2r05", "AB2r10=1s05"}) {
            same.on("AB1r05;" + other).due("count(3) = 2; found(0, 0, 0) = 0; found(1, 0, 0) = 1");
            same.on(other + ";AB1r05").due("count(3) = 2");
        }
        same.on("AB1r05=2s10;AB2r05=1s10").due("count(3) = 2");
        same.on("AB1r01;AC1s01;AD1r01=1s01").due("count(3) = 1; found(1, 0, 0) = 0; cut(2, 0) = 2; count(3) = 2; found(1, 0, 0) = 1");
        same.on("AB1r01;AC1s01=2r01;AD2s01=2r01;AE2s01").due("count(3) = 2; found(0, 0, 0) = 0; found(1, 0, 0) = 1; found(3, 0, 0) = 1");
    }

    /** The link k of a chain: it has a report in common with the links k - 1 and k + 1 alone. */
    private static String link(int k) {
        int r = (k + 1) / 2;
        int s = k / 2;
        return "AB" + (r % 9 + 1) + "r" + (10 + r) + "=" + (s % 9 + 1) + "s" + (10 + s);
    }

    /** The links stand in the order 0, 31, 30 .. 1, in eight notes of four. */
    private static void longestChain() {
        Sentence chain = Sentence.of(12, "connected by a chain of full references of which each has a report in common with the next one.");
        Run run = chain.fresh();
        for (int note = 0; note < 8; note++) {
            StringBuilder text = new StringBuilder();
            for (int slot = 4 * note; slot < 4 * note + 4; slot++) text.append(slot % 4 > 0 ? "," : "").append(link((32 - slot) % 32));
            run.text(text.toString()).due("put(" + note + ", 0) = " + (note + 1));
        }
        run.due("count(2) = 32; count(3) = 1; found(7, 3, 0) = 0; found(4, 0, 0) = 0; aCase(0, 3) = 33; aCase(0, 6) = 32; aCase(0, 5) = 255; aCase(0, 4) = 0;"
            + "aCase(1, 0) = -1");
        // without note 4 the links 13 to 16 are missing: 0 to 12 is one chain, 17 to 31 the other one
        run.due("cut(4, 0) = 7; count(3) = 2; found(0, 0, 0) = 0; found(0, 1, 0) = 1; found(3, 3, 0) = 1; found(4, 0, 0) = 0; found(6, 3, 0) = 0;"
            + "aCase(0, 6) = 13; aCase(1, 6) = 15; aCase(0, 3) = 14; aCase(1, 3) = 16; aCase(0, 5) = 113; aCase(1, 5) = 15; undo() = 8; count(3) = 1");
    }

    private static void numbered() {
        Sentence order = Sentence.of(12, "The cases are numbered from 0 in the order of their first full references.");
        order.on("A,FE9s99,AB1r01;i,CD5r05,FE9s99;AB1r01,BA1r02").due("found(0, 1, 0) = 0; found(0, 2, 0) = 1; found(1, 1, 0) = 2; found(1, 2, 0) = 0;"
            + "found(2, 0, 0) = 1; found(2, 1, 0) = 3; count(3) = 4");
        order.on("AB1r01;CD2r02").due("found(0, 0, 0) = 0; found(1, 0, 0) = 1; move(1, 0, 0) = 0; found(0, 0, 0) = 0; aCase(0, 0) = 2; cut(0, 0) = 1;"
            + "found(0, 0, 0) = 0; aCase(0, 0) = 0");
        Run run = order.fresh();
        for (int note = 0; note < 8; note++) {
            run.text("AB" + (note + 1) + "r01,AB" + (note + 1) + "r02,AB" + (note + 1) + "r03,AB" + (note + 1) + "r04").due("put(" + note + ", 0) = " + (note + 1));
        }
        for (int slot = 0; slot < 32; slot++) run.due("found(" + slot / 4 + ", " + slot % 4 + ", 0) = " + slot);
        run.due("count(3) = 32; aCase(31, 2) = 8004; aCase(31, 5) = 128; aCase(31, 6) = 1; aCase(31, 4) = 0; aCase(32, 0) = -1; table(31) = 31; table(32) = -1;"
            + "count(5) = 0; which(0) = 32; see(3, 8, 1) = 1; which(1) = 28; see(2, 7, 1) = 2; which(0) = 4; see(2, 6, 1) = 3; which(1) = -9");
    }

    private static void named() {
        Sentence name = Sentence.of(13, "The name and the first report of a case are the name and the first report of its first full reference.");
        name.on("CD2s10=1r05;AB1r05;EF1r05=1s01").due("count(3) = 1; aCase(0, 0) = 2; aCase(0, 1) = 3; aCase(0, 2) = 2110; move(1, 0, 0) = 0; aCase(0, 0) = 0;"
            + "aCase(0, 1) = 1; aCase(0, 2) = 1005; move(2, 0, 0) = 0; aCase(0, 0) = 4; aCase(0, 1) = 5; aCase(0, 2) = 1005");
        name.on("AB9s99=1r01,CD1r01").due("aCase(0, 2) = 9199; aCase(0, 0) = 0");
        name.on("AB1r01,CD9s99=1r01").due("aCase(0, 2) = 1001; aCase(0, 1) = 1");
    }

    private static void clashing() {
        Sentence clash = Sentence.of(13, "A case clashes if another one of its full references has another name.");
        clash.on("AB1r05").due("aCase(0, 4) = 0; count(5) = 0");
        clash.on("AB1r05;AB1r05;AB2s10=1r05").due("aCase(0, 4) = 0; count(5) = 0");
        for (String other : new String[] {"AC1r05", "CB1r05", "BA1r05", "EF1r05"}) clash.on("AB1r05;" + other).due("aCase(0, 4) = 1; count(5) = 1");
        clash.on("AB1r05;AB1r05,AB1r05,AB1r05,AF1r05").due("aCase(0, 4) = 1; count(5) = 1");
        clash.on("AB1r05;AC1r06;A,i,a0A").due("aCase(0, 4) = 0; aCase(1, 4) = 0; count(5) = 0");
        clash.on("AB1r05;CD1r06;AC1r05;CD1r06").due("aCase(0, 4) = 1; aCase(1, 4) = 0; count(5) = 1; cut(0, 0) = 3; aCase(0, 4) = 0; aCase(1, 4) = 0; count(5) = 0");
    }

    private static void properties() {
        Sentence what = Sentence.of(13, "`what`: 0 for the first letter of its name (0 for A to 5 for F), 1 for the second letter, 2 for its first report as"
            + " 1000 * volume + 100 * series (0 for r, 1 for s) + page, 3 for the number of different reports of its full references,"
            + " 4 for whether it clashes (1 or 0), 5 for the notes with a reference that finds it, as a set, 6 for the number of references that find it");
        what.on("AF1r01,FA9s99,CD9r01,DC1s99").due("aCase(0, 0) = 0; aCase(0, 1) = 5; aCase(1, 0) = 5; aCase(1, 1) = 0; aCase(0, 2) = 1001; aCase(1, 2) = 9199;"
            + "aCase(2, 2) = 9001; aCase(3, 2) = 1199; aCase(2, 0) = 2; aCase(2, 1) = 3");
        what.on("AB1r05=2s10;AB2s10=1r05;AB1r05;CD3r03;AB2s10").due("aCase(0, 3) = 2; aCase(1, 3) = 1; aCase(0, 4) = 0; aCase(0, 5) = 23; aCase(0, 6) = 4;"
            + "aCase(1, 5) = 8; aCase(1, 6) = 1").text("EF2s10=3r07").due("put(5, 0) = 6; aCase(0, 3) = 3; aCase(0, 4) = 1; aCase(0, 5) = 55; aCase(0, 6) = 5");
        Sentence.of(13, "Returns a property of a case.").on("BA3s07,i,B;C,i;i").due("aCase(0, 0) = 1; aCase(0, 1) = 0; aCase(0, 2) = 3107; aCase(0, 3) = 1;"
            + "aCase(0, 4) = 0; aCase(0, 5) = 1; aCase(0, 6) = 3");
    }

    private static void propertiesAtTheirLimits() {
        Sentence sets = Sentence.of(13, "Sets of notes are bit sets in which bit n stands for note n.");
        String[] notes = {"B", "B", "B", "B", "B", "B", "B", "B"};
        for (int note = 0; note < 8; note++) {
            notes[note] = "AB1r05";
            sets.on(String.join(";", notes)).due("aCase(0, 5) = " + (1 << note));
            notes[note] = "B";
        }
        sets.on("AB1r05;B;B;B;B;B;B;A").due("aCase(0, 5) = 129; aCase(0, 6) = 2");
        sets.on("AB1r05;i;i;i;i;i;i;i").due("aCase(0, 5) = 255; aCase(0, 6) = 8");
        sets.on("AB1r05,i,i,A;A,A,A,A;A,A,A,A;A,A,A,A;A,A,A,A;A,A,A,A;A,A,A,A;A,A,A,A").due("aCase(0, 5) = 255; aCase(0, 6) = 32");
    }

    private static void caseErrors() {
        Sentence unknown = Sentence.of(13, "UNKNOWN if there is no such case;");
        unknown.fresh().due("aCase(0, 0) = -1; aCase(-1, 0) = -1");
        unknown.on("A,i").due("aCase(0, 0) = -1");
        unknown.on("AB1r05;CD2r02").due("aCase(-1, 0) = -1; aCase(0, 0) = 0; aCase(1, 0) = 2; aCase(2, 0) = -1; aCase(32, 0) = -1; aCase(33, 0) = -1;"
            + "aCase(2147483647, 0) = -1; aCase(-2147483648, 0) = -1; aCase(-31, 6) = -1; cut(1, 0) = 1; aCase(1, 0) = -1");
        Sentence.of(13, "OUTSIDE if what is not 0 to 6.").on("AB1r05").due("aCase(0, -1) = -2; aCase(0, 0) = 0; aCase(0, 6) = 1; aCase(0, 7) = -2;"
            + "aCase(0, 2147483647) = -2; aCase(0, -2147483648) = -2");
    }

    private static void sorted() {
        Sentence order = Sentence.of(14, "Returns a case of the table of cases, which is sorted by the names (as two letters, A first), then by the series"
            + " (r first), then the volume, then the page of their first reports.");
        // of two cases, the second one comes first; each pair differs in one thing, and the later things speak against it
        for (String pair : new String[] {"BA1r01,AF9s99", "FA1r01,EF9s99", "AC1r01,AB9s99", "AF1r01,AE9s99", "BC1r01,BA9s99", "AB1s01,AB9r99", "AB2r01,AB1r99",
            "AB9s01,AB8s99", "AB1r02,AB1r01", "AB1r10,AB1r09", "AB1s99,AB1s98", "AB1r20=1s01,AB1r19=1s02"}) {
            order.on(pair).due("table(0) = 1; table(1) = 0; table(2) = -1");
            String[] both = pair.split(",");
            order.on(both[1] + ";" + both[0]).due("table(0) = 0; table(1) = 1; table(2) = -1");
        }
        order.on("CD9s99=1r01;AB9s99;BC2r02").due("table(0) = 1; table(1) = 0; table(2) = -1");
        order.on("AB1s01;AB9r99=1s01;AB2r50").due("table(0) = 1; table(1) = 0");
    }

    private static void table() {
        Sentence.of(14, "`place`: the place in the table, counted from 0").on("FE1r01,BA1r02,AB1r03").due("table(0) = 2; table(1) = 1; table(2) = 0");
        Sentence unknown = Sentence.of(14, "UNKNOWN if there is no such place.");
        unknown.fresh().due("table(0) = -1; table(-1) = -1");
        unknown.on("A,i").due("table(0) = -1");
        unknown.on("AB1r01").due("table(-1) = -1; table(0) = 0; table(1) = -1; table(2147483647) = -1; table(-2147483648) = -1; table(32) = -1; cut(0, 0) = 0;"
            + "table(0) = -1");
    }
}
