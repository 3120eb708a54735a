/** Promises 12 to 17: found, aCase, table, shorter, print, judge. */
public final class FoundTest {
    public static void main(String[] args) {
        foundByFull();
        foundByShort();
        foundBySame();
        foundByAbove();
        pins();
        cases();
        table();
        shorter();
        shorterOfFull();
        print();
        judge();
        judgeErrors();
        Run.end("FoundTest");
    }

    private static void foundByFull() {
        Run.on("promise 12, the cases of full references", "AB1r05,CD1s05,EF1r06;BA1r05,AB2r05").due(
            "found(0, 0, 0) = 0; found(0, 1, 0) = 1; found(0, 2, 0) = 2; found(1, 0, 0) = 0; found(1, 1, 0) = 3; found(1, 1, 1) = 0;"
            + "count(3) = 4");
        Run.on("promise 12, a chain joins", "AB1r05;CD2s10;EF3r20;AC1r05=2s10;BF3r20=2s10").due("count(3) = 1; found(0, 0, 0) = 0;"
            + "found(1, 0, 0) = 0; found(2, 0, 0) = 0; found(3, 0, 0) = 0; found(4, 0, 0) = 0; cut(3, 0) = 4; count(3) = 2;"
            + "found(0, 0, 0) = 0; found(1, 0, 0) = 1; found(2, 0, 0) = 1; found(3, 0, 0) = 1");
        Run.on("promise 12, first and second reports join crosswise", "AB1r05=2s10;CD2s10=1r05;EF2s10;AC3r05=1s05;AD1s05=4r04")
            .due("count(3) = 2; found(4, 0, 0) = 1; found(2, 0, 0) = 0");
        // each next one of the chain stands on the other side of those that are joined already
        Run.on("promise 12, a chain in zigzag", "AB1r01;BC1s01=2r01,CD2s01=3r01;DE3s01;EF3r01=3s01,FA2r01=2s01;AC1r01=1s01").due("count(3) = 1;"
            + "found(2, 0, 0) = 0; aCase(0, 3) = 6; cut(4, 0) = 4; count(3) = 2; found(2, 0, 0) = 1; found(1, 0, 0) = 1");
        Run.on("promise 12, a chain through a later and an earlier one", "AB1r01;AB2s02=3r03;AB1r01=2s02;AB3r03").due("count(3) = 1;"
            + "found(3, 0, 0) = 0; cut(2, 0) = 3; count(3) = 2; found(2, 0, 0) = 1");
        Run.on("promise 12, errors in their order", "AB1r05;A").due("found(2, 0, 0) = -1; found(0, 1, 3) = -1; found(-1, 0, 3) = -1;"
            + "found(0, -1, 0) = -1; found(0, 0, 3) = -2; found(0, 0, -1) = -2; found(2147483647, 0, 0) = -1;"
            + "found(0, 2147483647, 0) = -1; found(1, 0, -2147483648) = -2");
    }

    private static void foundByShort() {
        Run.on("promise 12, short", "A,AB1r05,A,B;A,AC2s10,A;CD1r05,C,A").due("found(0, 0, 1) = 1; found(0, 0, 0) = -9;"
            + "found(0, 2, 0) = 0; found(0, 2, 1) = 0; found(0, 3, 1) = 1; found(1, 0, 0) = 0; found(1, 2, 1) = 2; found(1, 2, 0) = -9;"
            + "found(2, 1, 1) = 1; found(2, 2, 1) = 2");
        Run.on("promise 12, two citations are one case by a later one", "AB1r05,AC2s10;A;AD1r05=2s10").due("found(1, 0, 0) = 0;"
            + "cut(2, 0) = 2; found(1, 0, 1) = 2");
        Run.on("promise 12, the name is that of the first full reference", "AB1r05;BA1r05,B,A").due("found(1, 1, 1) = 1; found(1, 2, 0) = 0;"
            + "move(0, 1, 0) = 1; found(0, 1, 0) = 0; found(0, 2, 1) = 1");
    }

    private static void foundBySame() {
        Run.on("promise 12, same", "i;AB1r05,i,CD2s10,i;i;A;i;i,i").due("found(0, 0, 1) = 3; found(1, 1, 0) = 0; found(1, 3, 0) = 1;"
            + "found(2, 0, 1) = 3; found(3, 0, 0) = 0; found(4, 0, 0) = 0; found(5, 0, 0) = 0; found(5, 1, 0) = 0");
        Run.on("promise 12, same of a dead one", "A;i;i,i;i").due("found(0, 0, 1) = 1; found(1, 0, 1) = 4; found(2, 0, 1) = 4;"
            + "found(2, 1, 1) = 4; found(3, 0, 1) = 3; found(3, 0, 0) = -9");
        Run.on("promise 12, same in a note", "i,i,AB1r05,i").due("found(0, 0, 1) = 3; found(0, 1, 1) = 4; found(0, 3, 0) = 0");
    }

    private static void foundByAbove() {
        Run.on("promise 12, above", "AB1r05,AC2s10,CD3r01;a0A,a0C,a0B,a1C;a1C,a2C,a3C,a9C;a1D").due("found(1, 0, 1) = 2;"
            + "found(1, 1, 0) = 2; found(1, 2, 1) = 1; found(1, 3, 1) = 5; found(2, 0, 0) = 2; found(2, 1, 1) = 5; found(2, 2, 1) = 5;"
            + "found(2, 3, 1) = 5; found(3, 0, 1) = 1");
        Run.on("promise 12, one case found twice is one", "AB1r05,i,AB1r05,AC1r05;a0A").due("found(1, 0, 0) = 0");
        Run.on("promise 12, above a note of dead references", "A,i;a0A;a1A").due("found(1, 0, 1) = 1; found(2, 0, 1) = 1");
        Run.on("promise 12, above through above and same", "AB1r05,AC2s10;AC2s10;a1A,i;a2A").due("found(3, 0, 0) = 1; found(2, 1, 0) = 1");
        Run.on("promise 12, the letter is that of the case's name", "AB1r05;CD1r05;a1A,a1C").due("found(2, 0, 0) = 0; found(2, 1, 1) = 1");
    }

    private static void pins() {
        Run.on("promise 12, pins", "AB1r20,CD1r40,A@19,A@20;A@39,A@40,A@99,C@99;A,E@10,C@39,C@40").due("found(0, 0, 2) = 1;"
            + "found(0, 2, 2) = 2; found(0, 3, 2) = 0; found(1, 0, 2) = 0; found(1, 1, 2) = 3; found(1, 2, 2) = 3; found(1, 3, 2) = 0;"
            + "found(2, 0, 2) = 1; found(2, 1, 2) = 4; found(2, 2, 2) = 2; found(2, 3, 2) = 0");
        Run.on("promise 12, another volume or series does not end a case", "AB1r20@99;CD2r40;EF1s40").due("found(0, 0, 2) = 0");
        Run.on("promise 12, a second report ends a case", "AB1r20@50,A@40,A@41;CD3s01=1r41").due("found(0, 0, 2) = 3;"
            + "found(0, 1, 2) = 0; found(0, 2, 2) = 3");
        Run.on("promise 12, a case that was cited before ends a case", "CD1r41;AB1r20@50").due("found(1, 0, 2) = 3; cut(0, 0) = 1; found(0, 0, 2) = 0");
        Run.on("promise 12, a report of the same case does not", "AB1r20@50;AB1r20=2s10;AB2s10=1r30").due("count(3) = 1; found(0, 0, 2) = 0");
        Run.on("promise 12, the first report of the case counts, not the own one", "AB1r20;AB1r20=2s50;AB2s50@30;EF1r30")
            .due("found(2, 0, 2) = 3; cut(3, 0) = 3; found(2, 0, 2) = 0");
        Run.on("promise 12, the second report of the case does not count", "AB1r20=2s50@40;CD2s30;i@19").due("found(0, 0, 2) = 0;"
            + "found(2, 0, 2) = 2");
        Run.on("promise 12, a dead reference with and without a pin", "i,A@10").due("found(0, 0, 2) = 4; found(0, 1, 2) = 4");
        Run.on("promise 12, pages of the next volume do not count", "AB1s20@99;CD2r01;EF2s10").due("found(0, 0, 2) = 0");
    }

    private static void cases() {
        Run.on("promise 13", "FE9s99,A;AB1r05=2s10,A;CD2s10=7r07@08,i;AB1r05,B;FE9s99").due(
            "aCase(0, 0) = 5; aCase(0, 1) = 4; aCase(0, 2) = 9199; aCase(0, 3) = 1; aCase(0, 4) = 0; aCase(0, 5) = 17; aCase(0, 6) = 2;"
            + "aCase(1, 0) = 0; aCase(1, 1) = 1; aCase(1, 2) = 1005; aCase(1, 3) = 3; aCase(1, 4) = 1; aCase(1, 5) = 14; aCase(1, 6) = 5");
        Run.on("promise 13, different reports", "AB1r05=2s10;AB2s10=3r07;AB3r07;AB2s10=1r05").due("aCase(0, 3) = 3; cut(1, 0) = 3; aCase(0, 3) = 2;"
            + "aCase(1, 3) = 1");
        Run.on("promise 13, only the second letter clashes", "AB1r05;AC1r05").due("aCase(0, 4) = 1; count(5) = 1; aCase(0, 3) = 1");
        Run.on("promise 13, only the first letter clashes", "AC1r05;BC1r05").due("aCase(0, 4) = 1; count(5) = 1");
        Run.on("promise 13, several in one note", "AB1r05,AB1r05,i,A").due("aCase(0, 5) = 1; aCase(0, 6) = 4; aCase(0, 4) = 0");
        Run.on("promise 13, errors in their order", "AB1r05").due("aCase(1, 0) = -1; aCase(-1, 7) = -1; aCase(1, 9) = -1;"
            + "aCase(0, 7) = -2; aCase(0, -1) = -2; aCase(2147483647, 0) = -1; aCase(-2147483648, 0) = -1; aCase(0, 2147483647) = -2");
        Run.on("promise 13, no case", "A,i").due("aCase(0, 0) = -1; aCase(0, 8) = -1");
    }

    private static void table() {
        Run.on("promise 14, by names", "BA1r05,AC1r06;AB1r07,FE1r08;EF1r09").due("table(0) = 2; table(1) = 1; table(2) = 0;"
            + "table(3) = 4; table(4) = 3; table(5) = -1; table(-1) = -1");
        Run.on("promise 14, by series, volume, page", "AB1s01,AB2r01,AB1r99,AB1r02;AB1s02,AB9r50").due("table(0) = 3; table(1) = 2;"
            + "table(2) = 1; table(3) = 5; table(4) = 0; table(5) = 4; table(6) = -1");
        Run.on("promise 14, names before series", "AC1r01,AB9s99,BA9s98").due("table(0) = 1; table(1) = 0; table(2) = 2");
        Run.on("promise 14, by the first name and the first report", "CD9s99=1r01;AB9s99;BC2r02").due("count(3) = 2; table(0) = 1;"
            + "table(1) = 0; table(2) = -1; table(2147483647) = -1; table(-2147483648) = -1");
    }

    private static void shorter() {
        Run.on("promise 15, same before short before above", "AB1r05;A@99;CD2s10;a0A;a0A@11,a0A,CD2s10").due(
            "shorter(0, 0, 0) = 0; shorter(0, 0, 1) = 6; shorter(1, 0, 0) = 2; shorter(1, 0, 1) = 4; shorter(2, 0, 0) = 0;"
            + "shorter(3, 0, 0) = 1; shorter(3, 0, 1) = 1; shorter(4, 0, 0) = 2; shorter(4, 1, 0) = 2; shorter(4, 1, 1) = 1;"
            + "shorter(4, 2, 0) = 1").prints(1, "AB1r05;i@99;CD2s10;A;i@11,i,C");
        Run.on("promise 15, the lowest above", "CD2s10;AB1r05,AC2r01;AB1r05,C;AB1r05;C;a3A@01").due("shorter(5, 0, 0) = 3;"
            + "shorter(5, 0, 1) = 6").prints(1, "CD2s10;AB1r05,AC2r01;AB1r05,C;a2A;C;a2A@01");
        Run.on("promise 15, above with the letter of the name", "AB1r05;AC2s10;CD1r05,EF3r03;BF1r05").due("shorter(3, 0, 0) = 3;"
            + "shorter(3, 0, 1) = 3").prints(1, "AB1r05;AC2s10;a0A,EF3r03;a0A");
        Run.on("promise 15, dead references stay", "A@10,i,a5F@20").due("shorter(0, 0, 0) = 1; shorter(0, 0, 1) = 4; shorter(0, 1, 0) = 2;"
            + "shorter(0, 1, 1) = 1; shorter(0, 2, 0) = 3; shorter(0, 2, 1) = 6").prints(1, "A@10,i,a5F@20");
        Run.on("promise 15, errors in their order", "AB1r05").due("shorter(1, 0, 0) = -1; shorter(0, 1, 2) = -1; shorter(-1, 0, 2) = -1;"
            + "shorter(0, -1, 0) = -1; shorter(0, 0, 2) = -2; shorter(0, 0, -1) = -2; shorter(2147483647, 0, 0) = -1");
    }

    private static void shorterOfFull() {
        Run.on("promise 15, a report more keeps a full reference", "AB1r05;AB1r05=2s10;AB2s10;AB1r05=2s10").due("shorter(1, 0, 0) = 0;"
            + "shorter(1, 0, 1) = 11; shorter(2, 0, 0) = 2; shorter(3, 0, 0) = 2").prints(1, "AB1r05;AB1r05=2s10;i;i");
        Run.on("promise 15, two references before it that have one report each are not a single one",
            "AB1r05;AB2s10;AB1r05=2s10").due("count(3) = 1; shorter(2, 0, 0) = 0").prints(1, "AB1r05;AB2s10;AB1r05=2s10");
        Run.on("promise 15, a full reference after it does not count", "AB1r05;AB1r05=2s10").due("shorter(0, 0, 0) = 0; shorter(0, 0, 1) = 6");
        Run.on("promise 15, reports in the other order", "AB1r05=2s10;CD2s10=1r05@44").due("shorter(1, 0, 0) = 2; shorter(1, 0, 1) = 4");
        Run.on("promise 15, only the first full reference is left", "AB1r05=2s10,AC3r01;CD2s10@50,AC3r01").due("shorter(1, 0, 0) = 0;"
            + "shorter(1, 0, 1) = 14; shorter(1, 1, 0) = 0; shorter(1, 1, 1) = 6").prints(1, "AB1r05=2s10,AC3r01;AB1r05=2s10@50,AC3r01");
        Run.on("promise 15, like the first full reference and not like the one that has its reports",
            "AB1r05,AC3r01;EF1r05=2s10,i;AD2s10").due("shorter(2, 0, 0) = 3").prints(1, "AB1r05,AC3r01;EF1r05=2s10,i;a1A")
            .due("respell(1, 1, 1) = 0; cut(1, 1) = 2; shorter(1, 0, 0) = 0");
    }

    private static void print() {
        Run.on("promise 16", "AB1r05=9s99@01,i@10,A;a9F,CD2s10").prints(0, "AB1r05=9s99@01,i@10,A;a9F,CD2s10")
            .prints(1, "AB1r05=9s99@01,i@10,i;a9F,CD2s10");
        Run.on("promise 16, all are determined for the paper as it is", "AB1r05,AB1r05;AC2s10,AB1r05;AB1r05")
            .prints(1, "AB1r05,i;AC2s10,a0A;a0A").prints(0, "AB1r05,AB1r05;AC2s10,AB1r05;AB1r05");
        Run.on("promise 16, errors", "A").due("print(2, 0) = -2; print(-1, 0) = -2; print(0, -2) = -2; print(1, -2147483648) = -2;"
            + "print(2, 9) = -2; print(0, 1) = -9; print(1, 1) = -9; print(0, 2147483647) = -9; print(0, 0) = 65; print(1, 0) = 65");
        Run.fresh("promise 16, an empty paper").due("print(0, -1) = 0; print(0, 0) = -9; print(1, -1) = 0; print(1, 0) = -9;"
            + "write(65) = 1; print(0, -1) = 0");
    }

    private static void judge() {
        String text = "AB1r05;a0A;B,i;CD2s10;C";
        Run.on("promise 17, moves", text).due("judge(1, 1010) = -9; judge(2, 10104005) = -9; judge(2, 10104001) = 1;"
            + "judge(2, 10104000) = 1; judge(2, 10114001) = 1; judge(2, 10114005) = -9; judge(1, 1051) = 0; judge(1, 1501) = 0;"
            + "judge(1, 1012) = 0; judge(1, 1440) = -9; count(6) = 0").prints(0, text);
        Run.on("promise 17, cuts", text).due("judge(1, 2010) = -9; judge(1, 2020) = 0; judge(1, 2011) = 0; judge(1, 2500) = 0;"
            + "judge(2, 20002400) = 1; judge(2, 20002300) = -9; judge(3, 200020005002) = -9; judge(3, 200020005003) = 2").prints(0, text);
        Run.on("promise 17, a cut with and without mending", "B;AB1r05;a1A").due("judge(2, 20103100) = -9; judge(2, 20003100) = 1;"
            + "judge(2, 20004105) = -9; judge(2, 20104105) = 1");
        Run.on("promise 17, what is found", text).due("judge(1, 3000) = -9; judge(1, 3001) = 0; judge(1, 3009) = 0; judge(1, 3209) = -9;"
            + "judge(1, 3301) = -9; judge(1, 3401) = -9; judge(1, 3200) = 0; judge(1, 3010) = 0; judge(1, 3019) = 0; judge(1, 3500) = 0;"
            + "judge(1, 3509) = 0; judge(1, 3219) = -9; judge(1, 3229) = 0");
        Run.on("promise 17, reasons", text).due("judge(1, 4000) = -9; judge(1, 4201) = -9; judge(1, 4214) = -9; judge(1, 4215) = 0;"
            + "judge(1, 4224) = 0; judge(1, 4500) = 0; judge(1, 4010) = 0; judge(1, 4009) = 0");
        Run.on("promise 17, how many find a case", text).due("judge(1, 5004) = -9; judge(1, 5005) = 0; judge(1, 5000) = -9; judge(1, 5099) = 0;"
            + "judge(1, 5100) = 0; judge(1, 5010) = 0; judge(1, 5104) = 0");
        Run.on("promise 17, ten find a case", "AB1r05,i,i,i;A,i,i,i;A,i").due("judge(1, 5010) = -9; judge(1, 5011) = 0; judge(1, 5001) = -9");
        Run.on("promise 17, case 9 cannot be named", "AB1r01,AB1r02,AB1r03,AB1r04;AB1r05,AB1r06,AB1r07,AB1r08;AB1r09,AB1r10").due(
            "found(2, 1, 0) = 9; judge(1, 3219) = 0; judge(1, 3208) = -9");
        Run.on("promise 17, shorter forms", "AB1r05;AB1r05;AB1r05,i").due("judge(2, 61004100) = -9; judge(1, 6001) = 0; judge(1, 6300) = 0;"
            + "judge(1, 6010) = 0; judge(1, 6210) = -9; judge(3, 620020002000) = -9; judge(4, 6100600020005002) = -9; judge(4, 6100600020005003) = 3;"
            + "judge(3, 610020005003) = 2; judge(3, 610020004003) = -9; judge(4, 6100200040030000) = 3").prints(0, "AB1r05;AB1r05;AB1r05,i");
        Run.on("promise 17, a shorter form changes what follows", "AB1r05;AB1r05").due("judge(3, 200040005001) = -9;"
            + "judge(3, 610020004003) = -9; judge(3, 610020005001) = 2; judge(2, 20006000) = -9");
        Run.on("promise 17, a dead reference has no shorter form to take", "A").due("judge(1, 6000) = 0; judge(1, 3009) = -9");
        Run.on("promise 17, four acts", "AB1r05;A;i").due("judge(4, 1020100030004000) = 2; judge(4, 1021120130003200) = -9;"
            + "judge(4, 1021120130004001) = 3; judge(4, 3000400050036200) = -9; judge(4, 3000400050036201) = 3; judge(4, 3000400050046201) = 2;"
            + "judge(4, 9999999999999999) = 0; judge(4, 0) = 0");
    }

    private static void judgeErrors() {
        Run.on("promise 17, out of range", "AB1r05").due("judge(0, 0) = -2; judge(5, 3000) = -2; judge(-1, 0) = -2; judge(1, -1) = -2;"
            + "judge(1, 10000) = -2; judge(1, 9999) = 0; judge(2, 100000000) = -2; judge(2, 99999999) = 0; judge(3, 1000000000000) = -2;"
            + "judge(3, 999999999999) = 0; judge(4, 10000000000000000) = -2; judge(4, 9223372036854775807) = -2;"
            + "judge(4, -9223372036854775808) = -2; judge(2147483647, 0) = -2; judge(-2147483648, 0) = -2; judge(1, 9223372036854775807) = -2");
        Run.on("promise 17, digits that are no act", "AB1r05").due("judge(1, 0) = 0; judge(1, 7000) = 0; judge(1, 8000) = 0; judge(1, 9000) = 0;"
            + "judge(1, 500) = 0; judge(2, 3000) = 0; judge(2, 50003000) = -9; judge(2, 30000000) = 1; judge(1, 1002) = 0; judge(1, 1000) = -9");
    }
}
