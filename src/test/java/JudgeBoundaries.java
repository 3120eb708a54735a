/** The boundary cases of promise 17. */
final class JudgeBoundaries {
    private JudgeBoundaries() {
    }

    static void all() {
        sequence();
        nothingIsChanged();
        moves();
        cuts();
        cases();
        reasons();
        howMany();
        shortenings();
        everyAct();
        rows();
        answers();
        outside();
    }

    private static void sequence() {
        Sentence.of(17, "Checks a sequence of acts, beginning with the paper as it is.").on("AB1r05;i").due("judge(1, 2000) = -9; judge(1, 2000) = -9;"
            + "judge(2, 20002000) = -9; judge(3, 200020002000) = 2; judge(1, 4100) = -9; judge(2, 10104003) = -9; judge(2, 10104000) = 1; move(0, 1, 0) = 1;"
            + "judge(1, 4003) = -9; judge(1, 4000) = 0; judge(2, 10104000) = -9; cut(0, 0) = 1; judge(1, 3000) = -9; judge(2, 20003000) = 1; cut(0, 0) = 0;"
            + "judge(1, 2000) = 0; judge(1, 5000) = -9");
        Sentence.of(17, "Each act is given by four decimal digits.").on("AB1r05,CD2r02,EF3r03,FA4r04;C").due("judge(1, 3022) = -9; judge(1, 3033) = -9;"
            + "judge(2, 30223033) = -9; judge(2, 30223032) = 1; judge(2, 30233033) = 0; judge(4, 3000301130223033) = -9; judge(4, 3000301130223101) = -9;"
            + "judge(4, 3000301130223100) = 3");
    }

    private static void nothingIsChanged() {
        Sentence.of(17, "Nothing is changed.").on("AB1r05;AB1r05;CD2s10;a0A").due("move(0, 0, 0) = 0; keep(0) = 4; see(0, 0, 1) = 1; seed(5) = 0; judge(1, 1031) = -9;"
            + "judge(1, 2010) = -9; judge(1, 6100) = -9; judge(4, 6100201010106000) = -9; count(0) = 24; count(1) = 4; count(3) = 2; count(4) = 0; count(6) = 1;"
            + "count(7) = 1; seed(0) = 5; share(0, false) = 2; lost(5, true) = 3").prints(0, "AB1r05;AB1r05;CD2s10;a0A").prints(1, "AB1r05;i;CD2s10;A")
            .due("undo() = 0; again(0) = 4").prints(0, "AB1r05;AB1r05;CD2s10;a0A");
    }

    private static void moves() {
        Sentence move = Sentence.of(17, "1, from, to, mend: as move();");
        move.on("AB1r05;i").due("judge(1, 1000) = -9; judge(1, 1010) = -9; judge(1, 1101) = -9; judge(1, 1111) = -9; judge(1, 1020) = 0; judge(1, 1200) = 0;"
            + "judge(1, 1012) = 0; judge(1, 1019) = 0; judge(2, 10104003) = -9; judge(2, 10104100) = -9");
        move.on("B;AB1r05;a1A").due("judge(2, 10114200) = -9; judge(2, 10104200) = 1; judge(2, 10104201) = -9; judge(2, 10114201) = 1; judge(2, 12014005) = -9;"
            + "judge(2, 12004005) = -9");
        move.on("AB1r05;B;B;B;B;B;B;i").due("judge(1, 1701) = -9; judge(1, 1071) = -9; judge(1, 1801) = 0; judge(1, 1081) = 0; judge(1, 1901) = 0;"
            + "judge(2, 17103100) = -9; judge(2, 17103700) = 1; judge(2, 17103709) = -9");
    }

    private static void cuts() {
        Sentence cut = Sentence.of(17, "2, note, mend, 0: as cut();");
        cut.on("B;AB1r05;a1A").due("judge(1, 2000) = -9; judge(1, 2010) = -9; judge(1, 2020) = 0; judge(1, 2090) = 0; judge(1, 2001) = 0; judge(1, 2009) = 0;"
            + "judge(1, 2011) = 0; judge(1, 2200) = -9; judge(1, 2300) = 0; judge(2, 20103100) = -9; judge(2, 20004105) = -9; judge(2, 20003100) = 1;"
            + "judge(3, 200020002000) = -9; judge(4, 2000200020002000) = 3; judge(4, 2000200020005000) = -9");
        cut.on("A;A;A;A;A;A;A;A").due("judge(1, 2710) = -9; judge(1, 2810) = 0");
        cut.fresh().due("judge(1, 2000) = 0; judge(1, 2010) = 0");
    }

    private static void cases() {
        Sentence finds = Sentence.of(17, "3, note, reference, c: it is true that this reference exists and finds case c, or, if c is 9, that it is dead;");
        finds.on("AB1r05,CD2r05,B;C").due("judge(1, 3000) = -9; judge(1, 3001) = 0; judge(1, 3009) = 0; judge(1, 3011) = -9; judge(1, 3010) = 0; judge(1, 3012) = 0;"
            + "judge(1, 3029) = -9; judge(1, 3020) = 0; judge(1, 3028) = 0; judge(1, 3030) = 0; judge(1, 3039) = 0; judge(1, 3049) = 0; judge(1, 3101) = -9;"
            + "judge(1, 3109) = 0; judge(1, 3119) = 0; judge(1, 3209) = 0; judge(1, 3909) = 0; judge(1, 3099) = 0");
        // dead for each of the reasons 1 to 5
        finds.on("AB1r05,AC2r05,B;i;A,i,a9A").due("judge(1, 3029) = -9; judge(1, 3209) = -9; judge(1, 3109) = -9; judge(1, 3219) = -9; judge(1, 3229) = -9;"
            + "judge(1, 3228) = 0; judge(1, 3108) = 0; judge(1, 3239) = 0; judge(4, 3029310932093229) = -9");
        Run ten = finds.on("AB1r01,AB1r02,AB1r03,AB1r04;AB1r05,AB1r06,AB1r07,AB1r08;AB1r09,AB1r10");
        ten.due("judge(1, 3137) = -9; judge(1, 3208) = -9; judge(1, 3209) = 0; found(2, 1, 0) = 9; judge(1, 3219) = 0; judge(1, 3218) = 0; judge(1, 3210) = 0");
        finds.fresh().due("judge(1, 3000) = 0; judge(1, 3009) = 0");
    }

    private static void reasons() {
        Sentence reason = Sentence.of(17, "4, note, reference, v: it is true that this reference exists and its reason is v;");
        int[][] places = {{0, 0, 0}, {0, 2, 1}, {1, 0, 3}, {2, 0, 2}, {2, 1, 4}, {2, 2, 5}};
        Run run = reason.on("AB1r05,AC2r05,B;i;A,i,a9A");
        for (int[] place : places) {
            for (int v = 0; v <= 9; v++) run.due("judge(1, 4" + place[0] + place[1] + v + ") = " + (v == place[2] ? -9 : 0));
        }
        for (int v = 0; v <= 9; v++) run.due("judge(1, 403" + v + ") = 0; judge(1, 411" + v + ") = 0; judge(1, 423" + v + ") = 0; judge(1, 430" + v + ") = 0");
    }

    private static void howMany() {
        Sentence many = Sentence.of(17, "5, 0, and a number of two digits: it is true that at least so many references find a case;");
        many.fresh().due("judge(1, 5000) = -9; judge(1, 5001) = 0; judge(1, 5100) = 0");
        many.on("A").due("judge(1, 5000) = -9; judge(1, 5001) = 0");
        many.on("AB1r05,i,i,A;A,i,i,i;A,i,B").due("judge(1, 5009) = -9; judge(1, 5010) = -9; judge(1, 5011) = 0; judge(1, 5099) = 0; judge(1, 5110) = 0;"
            + "judge(1, 5900) = 0; judge(2, 21005006) = -9; judge(2, 21005007) = 1");
        many.on("AB1r05,i,i,i;A,i,i,i;A,i,i,i;A,i,i,i;A,i,i,i;A,i,i,i;A,i,i,i;A,i,i,i").due("judge(1, 5032) = -9; judge(1, 5033) = 0; judge(1, 5031) = -9");
    }

    private static void shortenings() {
        Sentence shorten = Sentence.of(17, "6, note, reference, 0: this reference, which must not be dead, is replaced by its shorter form.");
        shorten.on("AB1r05;AB1r05,B").due("judge(1, 6000) = -9; judge(1, 6100) = -9; judge(1, 6110) = 0; judge(1, 6120) = 0; judge(1, 6200) = 0; judge(1, 6010) = 0;"
            + "judge(1, 6001) = 0; judge(1, 6109) = 0; judge(2, 20004000) = -9; judge(3, 610020004003) = -9; judge(3, 610020004000) = 2;"
            + "judge(4, 6100600061004100) = -9");
        shorten.on("AB1r05;AB1r05;AB1r05").due("judge(4, 6200200020004003) = -9; judge(3, 200020004000) = -9; judge(3, 620020004100) = -9");
        shorten.on("AB1r05;AC2r05;CD3r05;AB1r05").due("judge(2, 63004300) = -9; judge(3, 630020003200) = -9; judge(3, 630020003202) = 2; judge(2, 20003202) = -9");
    }

    /** All four digits on one paper: note 0 finds its case, of note 1 the first reference finds it and the second one is dead. */
    private static void everyAct() {
        Sentence other = Sentence.of(17, "Any other four digits are impossible, and so is an act whose notes or reference do not exist, or whose mend is not 0 or 1.");
        for (int start = 0; start < 10000; start += 400) {
            Run run = other.on("AB1r05;A,B");
            for (int act = start; act < start + 400; act++) run.due("judge(1, " + act + ") = " + (holds(act) ? -9 : 0));
        }
    }

    private static boolean holds(int act) {
        int a = act / 100 % 10;
        int b = act / 10 % 10;
        int c = act % 10;
        boolean exists = a == 0 && b == 0 || a == 1 && b <= 1;
        boolean dead = a == 1 && b == 1;
        switch (act / 1000) {
            case 1: return a <= 1 && b <= 1 && c <= 1;
            case 2: return a <= 1 && b <= 1 && c == 0;
            case 3: return exists && c == (dead ? 9 : 0);
            case 4: return exists && c == (dead ? 1 : 0);
            case 5: return act <= 5002;
            case 6: return exists && !dead && c == 0;
            default: return false;
        }
    }

    private static void rows() {
        Sentence.of(17, "`n`: the number of acts, 1 to 4").on("AB1r05").due("judge(0, 0) = -2; judge(1, 3000) = -9; judge(2, 30003000) = -9;"
            + "judge(3, 300030003000) = -9; judge(4, 3000300030003000) = -9; judge(5, 3000300030003000) = -2; judge(-1, 3000) = -2");
        Sentence.of(17, "`row`: the acts as a number of 4 * n decimal digits with leading zeros, the first act in the highest digits").on("AB1r05;i").due(
            "judge(2, 30002000) = -9; judge(2, 20003000) = 1; judge(1, 0) = 0; judge(1, 1) = 0; judge(1, 999) = 0; judge(2, 3000) = 0; judge(3, 30003000) = 0;"
            + "judge(4, 300030003000) = 0; judge(4, 0) = 0; judge(4, 1) = 0; judge(4, 3000200030093000) = 3; judge(4, 3000200030095000) = -9");
    }

    private static void answers() {
        Sentence.of(17, "Returns the index (counted from 0) of the first act that is impossible or not true;").on("AB1r05").due("judge(4, 3000300030003001) = 3;"
            + "judge(4, 3000300030013000) = 2; judge(4, 3000300130003000) = 1; judge(4, 3001300030003000) = 0; judge(4, 3001300130013001) = 0;"
            + "judge(4, 3000000030013001) = 1; judge(4, 3000300070003001) = 2; judge(1, 3001) = 0");
        Sentence.of(17, "NONE if there is none;").on("AB1r05").due("judge(1, 5000) = -9; judge(4, 5000500050005000) = -9; judge(4, 5001300040006000) = -9;"
            + "judge(4, 1000200050005000) = -9");
    }

    private static void outside() {
        Sentence outside = Sentence.of(17, "OUTSIDE if n is out of range, or row is negative or has more than 4 * n digits.");
        outside.on("AB1r05").due("judge(1, 9999) = 0; judge(1, 10000) = -2; judge(1, 30000) = -2; judge(2, 99999999) = 0; judge(2, 100000000) = -2;"
            + "judge(3, 999999999999) = 0; judge(3, 1000000000000) = -2; judge(4, 9999999999999999) = 0; judge(4, 10000000000000000) = -2;"
            + "judge(4, 9223372036854775807) = -2; judge(1, 9223372036854775807) = -2; judge(1, 4294970296) = -2; judge(1, 0) = 0");
        outside.on("AB1r05").due("judge(1, -1) = -2; judge(4, -1) = -2; judge(1, -3000) = -2; judge(4, -9223372036854775808) = -2;"
            + "judge(1, -9223372036854775808) = -2; judge(0, 0) = -2; judge(0, 3000) = -2; judge(5, 0) = -2; judge(5, 30003000300030003) = -2; judge(-1, 0) = -2;"
            + "judge(2147483647, 0) = -2; judge(-2147483648, 0) = -2; judge(1, 3000) = -9");
    }
}
