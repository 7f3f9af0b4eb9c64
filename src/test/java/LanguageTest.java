/** Promises 1 to 5 and the language: the tape, the tokens, the grammar, the depth and the errors 1 to 5. */
public final class LanguageTest {
    private static final String TWO = Texts.TWO;
    private static final String WHEN = Texts.WHEN;

    private final Check check = new Check();

    public static void main(String[] args) {
        LanguageTest test = new LanguageTest();
        test.newObject();
        test.feedAndTrim();
        test.teachAnew();
        test.nothingIsLeftOver();
        test.teachWithAnError();
        test.tokens();
        test.lines();
        test.tests();
        test.depth();
        test.numberOfTokens();
        test.error1First();
        test.error2();
        test.error3();
        test.error4();
        test.error5();
        test.check.end();
    }

    private void right(String text) {
        check.right(text);
    }

    private void wrong(int error, String text) {
        check.wrong(error, text);
    }

    private void newObject() {
        TunnelLeggers x = new TunnelLeggers();
        for (int what = 0; what < 14; what++) {
            check.same("count(" + what + ") of a new object", x.count(what), 0);
        }
        check.same("errorAt() of a new object", x.errorAt(), -1);
        check.outOfBounds(x, "place(0, 0)", () -> x.place(0, 0));
        check.outOfBounds(x, "bore(0, 0)", () -> x.bore(0, 0));
        check.outOfBounds(x, "legger(0, 0)", () -> x.legger(0, 0));
        check.outOfBounds(x, "boat(0, 0)", () -> x.boat(0, 0));
        check.same("pass(120)", x.pass(120), 0);
        check.same("count(0)", x.count(0), 120);
    }

    private void feedAndTrim() {
        TunnelLeggers x = new TunnelLeggers();
        // "bore" " a l" "ong " "2 lo" "w 7;", then a list end and blanks
        check.same("feed", x.feed(0x626f7265, 0x2061206c, 0x6f6e6720, 0x32206c6f, 0x7720373b), 20);
        check.same("feed", x.feed(0x0a202020, 0x20202020, 0x20202020, 0x20202020, 0x2020200a), 40);
        check.same("teach", x.teach(), 0);
        check.same("bore(0, 0)", x.bore(0, 0), 2);
        check.same("bore(0, 1)", x.bore(0, 1), 7);
        check.illegal(x, "trim(1) of an empty tape", () -> x.trim(1));
        for (int i = 1; i <= 100; i++) {
            check.same("feed", x.feed(-1, Integer.MIN_VALUE, Integer.MAX_VALUE, 0, 1), 20 * i);
        }
        check.refused(x, "feed over 2000", IllegalStateException.class, () -> x.feed(0, 0, 0, 0, 0));
        check.illegal(x, "trim(2001)", () -> x.trim(2001));
        check.illegal(x, "trim(-1)", () -> x.trim(-1));
        check.illegal(x, "trim(MIN)", () -> x.trim(Integer.MIN_VALUE));
        check.same("trim(2000)", x.trim(2000), 2000);
        check.same("trim(1981)", x.trim(1981), 1981);
        check.refused(x, "feed over 2000", IllegalStateException.class, () -> x.feed(0, 0, 0, 0, 0));
        check.same("trim(1980)", x.trim(1980), 1980);
        check.same("feed", x.feed(0, 0, 0, 0, 0), 2000);
        check.same("trim(0)", x.trim(0), 0);
        check.same("count(13)", x.count(13), 0);
        Check.tape(x, "bore a long 1 low 0; bore a");
        check.same("trim keeps the first bytes", x.trim(20), 20);
        check.same("teach", x.teach(), 0);
        check.same("count(2)", x.count(2), 1);
    }

    private void teachAnew() {
        TunnelLeggers x = Check.taught("bore a long 5 low 9; legger p strength 9 lungs 9; legger q strength 9 lungs 3; "
            + "boat k weight 60 from west due 0 by p and q; boat l weight 1 from east due 3 by q and p; "
            + "whistle east when 1 = 2; rest p when 1 = 2;");
        x.pass(3);
        x.whistle(1);
        Check.tape(x, "bore b long 1 low 2; bore a long 2 low 0; shaft s at 2 draught 1; " + TWO
            + "legger r strength 2 lungs 2; boat k weight 3 from east due 999 by r and p; rest r when 1 = 1;");
        check.same("teach", x.teach(), 0);
        long[] due = {3, 0, 2, 3, 1, 3, 1, 1, 1, 0, 0, 300, 0, 0};
        for (int what = 0; what < 14; what++) {
            check.same("count(" + what + ") behind teach()", x.count(what), due[what]);
        }
        check.same("boat(0, 3)", x.boat(0, 3), 0);
        check.same("boat(0, 4)", x.boat(0, 4), -1);
        check.same("boat(0, 5)", x.boat(0, 5), 0);
        check.same("boat(0, 6)", x.boat(0, 6), -1);
        check.same("legger(0, 2)", x.legger(0, 2), 10);
        check.same("legger(0, 3)", x.legger(0, 3), 1);
        check.same("legger(0, 5)", x.legger(0, 5), 0);
        check.same("teach() of nothing", x.teach(), 0);
        check.same("count(3)", x.count(3), 0);
        check.same("count(6)", x.count(6), 0);
        check.same("count(7)", x.count(7), 0);
        check.same("count(0)", x.count(0), 3);
    }

    /** Taught behind a greater list that has been at work, a list goes as in a new object of the same minute. */
    private void nothingIsLeftOver() {
        StringBuilder great = new StringBuilder(Texts.bores(5).replace("low 0", "low 9")).append("shaft s at 3 draught 3; shaft t at 9 draught 1; ");
        great.append(Texts.lines(6, "legger l", " strength 4 lungs 9; "));
        for (int i = 0; i < 8; i++) {
            great.append("boat k").append(i).append(" weight ").append(i != 1 ? 1 : 60).append(" from ")
                .append(i % 2 == 0 ? "west" : "east").append(" due 0 by l").append(i % 6).append(" and l")
                .append((i + 1) % 6).append("; ");
        }
        great.append(Texts.times(3, "whistle east when minute / 9 * 9 = minute; rest l1 when not capped l2 and 1 = 2; "));
        String small = "bore a long 3 low 0; bore b long 2 low 9; legger p strength 9 lungs 9; "
            + "legger q strength 5 lungs 8; boat k weight 7 from west due 0 by p and q; "
            + "whistle east when air(5) = 0 and minute > 40; whistle west when 1 = 1;";
        TunnelLeggers x = new TunnelLeggers();
        TunnelLeggers fresh = new TunnelLeggers();
        for (String list : new String[] {great.toString(), "legger p strength 1 lungs 1; legger q strength 1 lungs 1;", small}) {
            for (int i = 0; i < 2; i++) {
                Check.tape(x, list);
                check.same("teach", x.teach(), 0);
                x.pass(24);
                fresh.pass(24);
            }
        }
        TunnelLeggers worked = Check.taught(great.toString());
        check.same("caps that lie by the great list", worked.foresee(24, 12) > 0, true);
        check.same("boats in the tunnel by the great list", worked.foresee(24, 9) > 0, true);
        Check.tape(x, small);
        x.teach();
        Check.tape(fresh, small);
        fresh.teach();
        for (int i = 0; i < 9; i++) {
            check.same("digest", x.digest(), fresh.digest());
            check.sameDouble("mean", x.mean(), fresh.mean());
            check.same("pass", x.pass(1), fresh.pass(1));
        }
        // The operations of the tests are not kept either: they would be too many soon.
        String sums = WHEN + "1 = 1" + Texts.times(90, "+1") + "; whistle east when 1 = 1;";
        for (int i = 0; i < 8; i++) {
            Check.tape(x, sums);
            check.same("teach", x.teach(), 0);
            x.pass(1);
            check.same("count(1) by the second order", x.count(1), 1);
        }
        // Who walks or has lost a cap begins anew.
        TunnelLeggers y = Check.taught("bore a long 1 low 9; legger p strength 9 lungs 9; legger q strength 9 lungs 9; "
            + "boat k weight 1 from west due 0 by p and q;");
        y.pass(1);
        check.same("legger(0, 5)", y.legger(0, 5), 9);
        Check.tape(y, TWO);
        y.teach();
        check.same("legger(0, 5)", y.legger(0, 5), 0);
        check.same("legger(0, 6)", y.legger(0, 6), -1);
    }

    private void teachWithAnError() {
        TunnelLeggers x = Check.taught("bore a long 5 low 9; " + TWO + "boat k weight 1 from east due 0 by p and q;");
        x.pass(3);
        x.whistle(1);
        long before = x.digest();
        Check.tape(x, "bore a long 1 low 1; bore b long 1 low 1; legger p strength 1 lungs 1; bore a long 1 low 1;");
        check.same("teach", x.teach(), 2);
        check.same("errorAt", x.errorAt(), 76);
        check.same("digest() behind an error", x.digest(), before);
        Check.tape(x, "bore");
        check.same("teach", x.teach(), 1);
        check.same("errorAt", x.errorAt(), 4);
        check.same("errorAt stays", x.errorAt(), 4);
        check.same("digest() behind an error", x.digest(), before);
        Check.tape(x, "bore a long 1 low 1;");
        check.same("errorAt is that of the latest teach()", x.errorAt(), 4);
        check.same("teach", x.teach(), 0);
        check.same("errorAt", x.errorAt(), -1);
    }

    private void tokens() {
        right("");
        right(" \n  \n");
        right("bore a long 1 low 0;");
        right("\nbore\na\nlong 1\n\nlow 0\n;\n");
        right("bore a long 1low 0;");
        right("bore a long 000001 low 000000;");
        right("bore abcdefghij long 1 low 0;");
        right("bore a234567890 long 1 low 0;");
        right("bore minx long 1 low 0; bore lo long 1 low 0; bore minutes long 1 low 0;");
        right(WHEN + "minute<=1and turn>=0or 1=1and[1>0];");
        wrong(1, "bore ^abcdefghijk long 1 low 0;");
        wrong(1, "bore a long ^0000001 low 0;");
        wrong(1, "bore a ^long1 low 0;");
        wrong(1, "bore along ^1 low 0;");
        wrong(1, "^borea long 1 low 0;");
        wrong(1, "bore a^\tlong 1 low 0;");
        wrong(1, "bore a^\rlong 1 low 0;");
        wrong(1, "^Bore a long 1 low 0;");
        wrong(1, "bore a^\u00e1 long 1 low 0;");
        wrong(1, "bore a^\u0000 long 1 low 0;");
        wrong(1, "bore a^_b long 1 low 0;");
        wrong(1, "bore a^` long 1 low 0;");
        wrong(1, "bore a^{ long 1 low 0;");
        wrong(1, "bore a long 1^: low 0;");
        wrong(1, "bore ^1a long 1 low 0;");
        wrong(1, WHEN + "1 < ^= 1;");
        wrong(1, WHEN + "1 =^< 1;");
        wrong(1, WHEN + "1 <=^= 1;");
        wrong(1, WHEN + "1 <^> 1;");
        wrong(1, WHEN + "1 ^! 1;");
        wrong(1, "bore a long 1 low 0^");
        wrong(1, "bore a long 1 low 0  ^");
        wrong(1, "  \nbore\n^");
        for (String keyword : ("bore long low shaft at draught legger strength lungs boat weight from west east due by and "
            + "whistle rest when minute turn air breath place waits inside capped not or min max").split(" ")) {
            wrong(1, "bore ^" + keyword + " long 1 low 0;");
            right("bore " + keyword + "1 long 1 low 0;");
        }
    }

    private void lines() {
        wrong(1, "^;");
        wrong(1, "bore a long 1 low 0;^;");
        wrong(1, "bore a long 1 low 0 ^bore b long 1 low 0;");
        wrong(1, "bore a long 1 ^; low 0;");
        wrong(1, "bore a long ^-1 low 0;");
        wrong(1, "bore a long ^b low 0;");
        wrong(1, "shaft s ^long 1 draught 1;");
        wrong(1, "legger p strength 1 ^low 1;");
        wrong(1, TWO + "boat k weight 1 from ^north due 0 by p and q;");
        wrong(1, TWO + "boat k weight 1 from ^0 due 0 by p and q;");
        wrong(1, TWO + "boat k weight 1 from west due 0 by p ^or q;");
        wrong(1, TWO + "boat k weight 1 from west due 0 by p^;");
        wrong(1, TWO + "boat k weight 1 from west due 0 by p and q ^and p;");
        wrong(1, "whistle ^p when 1 = 1;");
        wrong(1, "whistle west ^1 = 1;");
        wrong(1, "rest ^west when 1 = 1;");
        wrong(1, "^west when 1 = 1;");
        wrong(1, "bore a long 1^;");
        wrong(1, "shaft s at 1^;");
        wrong(1, "shaft s^;");
        wrong(1, "legger p strength 1^;");
        wrong(1, "legger p^;");
        wrong(1, "^name;");
        wrong(1, "^7;");
    }

    private void tests() {
        String list = "bore b long 9 low 0; " + TWO + "boat k weight 1 from west due 0 by p and q; " + WHEN;
        right(list + "not not inside k and [capped p or 1 = 2] or -(1 + 2) * 3 / air(minute) - breath p <= place k;");
        right(list + "min(1, 2) < max(waits west, waits east + turn) and not [[[1 > 2]]];");
        right(list + "1 + 2 * 3 - - 4 = 5;");
        wrong(1, list + "^;");
        wrong(1, list + "1^;");
        wrong(1, list + "1 ^and 1 = 1;");
        wrong(1, list + "(1 ^= 1);");
        wrong(1, list + "[1^];");
        wrong(1, list + "[1 = 1^;");
        wrong(1, list + "[1 = 1^);");
        wrong(1, list + "(1^] = 1;");
        wrong(1, list + "(^[1 = 1] = 1;");
        wrong(1, list + "1 = 1 ^= 1;");
        wrong(1, list + "1 = ^not 1;");
        wrong(1, list + "1 = ^inside k;");
        wrong(1, list + "inside k ^= 1;");
        wrong(1, list + "inside ^1;");
        wrong(1, list + "inside ^west;");
        wrong(1, list + "capped^;");
        wrong(1, list + "1 = 1 and^;");
        wrong(1, list + "1 = 1 or ^or 1 = 1;");
        wrong(1, list + "1 + ^* 1 = 1;");
        wrong(1, list + "1 - ^+ 1 = 1;");
        wrong(1, list + "1 * ^) = 1;");
        wrong(1, list + "1 ^2 = 1;");
        wrong(1, list + "1 * ^= 1;");
        wrong(1, list + "1 / ^= 1;");
        wrong(1, list + "1 + ^= 1;");
        wrong(1, list + "- ^= 1;");
        wrong(1, list + "1 = 1 and ^or 1 = 1;");
        wrong(1, list + "not ^and 1 = 1;");
        wrong(1, list + "waits ^k = 1;");
        wrong(1, list + "air ^1 = 1;");
        wrong(1, list + "air(1^, 2) = 1;");
        wrong(1, list + "air(^) = 1;");
        wrong(1, list + "breath ^(1) = 1;");
        wrong(1, list + "place ^0 = 1;");
        wrong(1, list + "min(1^) = 1;");
        wrong(1, list + "min ^1 = 1;");
        wrong(1, list + "max(1, 2^, 3) = 1;");
        wrong(1, list + "minute ^(1) = 1;");
        wrong(1, list + "^k = 1;");
    }

    private void depth() {
        right(WHEN + Texts.times(8, "(") + "1" + Texts.times(8, ")") + " = 1;");
        wrong(1, WHEN + Texts.times(8, "(") + "^(1" + Texts.times(9, ")") + " = 1;");
        right(WHEN + Texts.times(8, "[") + "1 = 1" + Texts.times(8, "]") + ";");
        wrong(1, WHEN + Texts.times(8, "[") + "^[1 = 1" + Texts.times(9, "]") + ";");
        right(WHEN + Texts.times(8, "-") + "1 = 1;");
        wrong(1, WHEN + Texts.times(8, "-") + "^-1 = 1;");
        right(WHEN + Texts.times(8, "not ") + "1 = 1;");
        wrong(1, WHEN + Texts.times(8, "not ") + "^not 1 = 1;");
        right(WHEN + "not [-(air(min(-max(1, 2), 3))) = 1];");
        wrong(1, WHEN + "not [-(air(min(-max(1, ^(2)), 3))) = 1];");
        wrong(1, WHEN + "not [-(air(min(-max(^-1, 2), 3))) = 1];");
        wrong(1, WHEN + Texts.times(8, "-") + "air^(1) = 1;");
        wrong(1, WHEN + Texts.times(8, "-") + "min^(1, 2) = 1;");
        wrong(1, WHEN + Texts.times(8, "not ") + "^[1 = 1];");
        right(WHEN + "min(" + Texts.times(7, "(") + "1" + Texts.times(7, ")") + ", " + Texts.times(7, "(") + "1" + Texts.times(7, ")") + ") = 1;");
        wrong(1, WHEN + "max(1, " + Texts.times(7, "(") + "^(1" + Texts.times(8, ")") + ") = 1;");
        wrong(1, WHEN + "max(" + Texts.times(7, "(") + "^(1" + Texts.times(8, ")") + ", 1) = 1;");
        wrong(1, WHEN + Texts.times(8, "[") + "^-1 = 1" + Texts.times(8, "]") + ";");
        right(WHEN + Texts.times(12, "1 - ") + "1 = 1;");
        right(WHEN + Texts.times(8, "-") + "1 - 1 * " + Texts.times(8, "-") + "1 = " + Texts.times(8, "(") + "1" + Texts.times(8, ")") + ";");
        right(WHEN + Texts.times(8, "not ") + "1 = 1 and " + Texts.times(8, "not ") + "1 = 1 or " + Texts.times(8, "[") + "1 = 1"
            + Texts.times(8, "]") + ";");
        right(WHEN + Texts.times(8, "(") + "1" + Texts.times(8, ")") + " + " + Texts.times(8, "(") + "1" + Texts.times(8, ")") + " = 1;");
        wrong(1, WHEN + "not 1 = " + Texts.times(7, "-") + "^-1;");
        right(WHEN + "not 1 = " + Texts.times(7, "-") + "1 and 1 = " + Texts.times(8, "-") + "1;");
    }

    private void numberOfTokens() {
        // "whistle west when -1 = 1;" has 8 tokens, "whistle west when 1 = 1;" 7, and each "+ 1" has 2.
        right(WHEN + "-1 = 1" + Texts.times(196, "+1") + ";");
        wrong(1, WHEN + "1 = 1" + Texts.times(197, "+1") + "^;");
        wrong(1, WHEN + "-1 = 1" + Texts.times(196, "+1") + "+^1;");
        wrong(1, WHEN + "-1 = 1" + Texts.times(196, "+1") + "; ^bore");
        wrong(1, WHEN + "1 = 1" + Texts.times(197, "+1") + " \n^");
        right(WHEN + "-1 = 1" + Texts.times(196, "+1") + "; \n");
        wrong(1, WHEN + "1 = 1" + Texts.times(190, "+1") + "^=" + Texts.times(20, "+1") + ";");
    }

    private void error1First() {
        wrong(1, "bore a long 13 low 0^");
        wrong(1, TWO + TWO + "legger p strength 10 lungs 10; rest z when inside z; rest ^;");
        wrong(5, TWO + "legger r strength ^10 lungs 10; rest z when inside z;");
        wrong(2, TWO + "legger ^p strength 10 lungs 10; rest z when inside z;");
        wrong(3, TWO + "rest ^z when inside z;");
        wrong(3, TWO + "rest p when breath q = breath ^z and inside z;");
    }

    private void error2() {
        wrong(2, "bore a long 1 low 0; bore ^a long 1 low 0;");
        wrong(2, "bore a long 3 low 0; shaft s at 0 draught 1; shaft t at 1 draught 1; shaft ^s at 9 draught 99;");
        wrong(2, TWO + "legger ^q strength 1 lungs 1;");
        wrong(2, TWO + "boat k weight 1 from west due 0 by p and q; boat ^k weight 1 from west due 0 by z and z;");
        right("bore p long 1 low 0; shaft p at 0 draught 1; " + TWO + "boat p weight 1 from west due 0 by p and q; "
            + "rest p when inside p and capped p and breath p = place p;");
        right("bore a long 1 low 0; bore aa long 1 low 0; bore aaaaaaaaaa long 1 low 0; bore az long 1 low 0; "
            + "bore a0 long 1 low 0;");
        right("bore a9 long 1 low 0; bore b long 1 low 0; bore ba long 1 low 0; bore zzzzzzzzzz long 1 low 0; "
            + "bore z999999999 long 1 low 0;");
        wrong(2, "bore zzzzzzzzzz long 1 low 0; bore ^zzzzzzzzzz long 1 low 0;");
        wrong(2, Texts.bores(5) + "bore ^b2 long 1 low 0;");
    }

    private void error3() {
        wrong(3, TWO + "boat k weight 1 from west due 0 by ^z and p;");
        wrong(3, TWO + "boat k weight 1 from west due 0 by p and ^z;");
        wrong(3, TWO + "boat k weight 1 from west due 0 by ^z and z;");
        wrong(3, TWO + "boat k weight 1 from west due 0 by p and ^k;");
        wrong(3, "boat k weight 1 from west due 0 by ^p and q; " + TWO);
        String boat = TWO + "boat k weight 1 from west due 0 by p and q; ";
        wrong(3, boat + "rest ^k when 1 = 1;");
        wrong(3, boat + WHEN + "capped ^k;");
        wrong(3, boat + WHEN + "breath ^k = 1;");
        wrong(3, boat + WHEN + "inside ^p;");
        wrong(3, boat + WHEN + "place ^p = 1;");
        wrong(3, TWO + WHEN + "inside ^k; boat k weight 1 from west due 0 by p and q;");
        wrong(3, TWO + "rest ^r when 1 = 1; legger r strength 1 lungs 1;");
    }

    private void error4() {
        right(Texts.bores(5));
        wrong(4, Texts.bores(5) + "bore ^x long 0 low 0;");
        right(Texts.bores(1) + Texts.lines(4, "shaft s", " at 1 draught 1;"));
        wrong(4, Texts.bores(1) + Texts.lines(4, "shaft s", " at 1 draught 1;") + "shaft ^x at 99 draught 1;");
        right(Texts.lines(6, "legger l", " strength 1 lungs 1;"));
        wrong(4, Texts.lines(6, "legger l", " strength 1 lungs 1;") + "legger ^x strength 0 lungs 1;");
        right(TWO + Texts.lines(8, "boat k", " weight 1 from west due 0 by p and q;"));
        wrong(4, TWO + Texts.lines(8, "boat k", " weight 1 from west due 0 by p and q;")
            + "boat ^x weight 0 from west due 0 by p and q;");
        String orders = TWO + Texts.times(7, "whistle east when 1=1;") + Texts.times(9, "rest p when 1=1;");
        right(orders);
        wrong(4, orders + "^whistle west when inside z;");
        wrong(4, orders + "^rest z when 1 = 1;");
        wrong(1, orders + "whistle west when^;");
        wrong(1, orders + "rest ^west when 1 = 1;");
    }

    private void error5() {
        right("bore a long 1 low 0; bore b long 12 low 9;");
        wrong(5, "bore a long ^0 low 0;");
        wrong(5, "bore a long ^13 low 0;");
        wrong(5, "bore a long ^999999 low 10;");
        wrong(5, "bore a long 1 low ^10;");
        right(Texts.bores(5) + "shaft s at 59 draught 30; shaft t at 0 draught 1;");
        wrong(5, Texts.bores(5) + "shaft s at ^60 draught 30;");
        wrong(5, Texts.bores(1) + "shaft s at ^12 draught 30; " + "bore x long 1 low 0;");
        right(Texts.bores(1) + "shaft s at 11 draught 30;");
        wrong(5, "shaft s at ^0 draught 1;");
        wrong(5, Texts.bores(1) + "shaft s at 0 draught ^0;");
        wrong(5, Texts.bores(1) + "shaft s at 0 draught ^31;");
        wrong(5, "legger p strength ^0 lungs 1;");
        wrong(5, "legger p strength ^10 lungs 1;");
        wrong(5, "legger p strength 9 lungs ^0;");
        wrong(5, "legger p strength 9 lungs ^10;");
        right(TWO + "boat k weight 60 from west due 999 by p and q;");
        wrong(5, TWO + "boat k weight ^0 from west due 0 by p and q;");
        wrong(5, TWO + "boat k weight ^61 from west due 0 by p and q;");
        wrong(5, TWO + "boat k weight 60 from west due ^1000 by z and q;");
        wrong(5, TWO + "boat k weight 60 from west due 999 by q and ^q;");
        wrong(5, TWO + "boat k weight 60 from west due 999 by p and ^p; boat k weight 0 from west due 0 by p and p;");
        right(WHEN + "999999 > 0;");
    }
}
