/** Promises 6 to 11, 13, 23 and 24: what is told of a tunnel. */
public final class TellingTest {
    private final Check check = new Check();

    public static void main(String[] args) {
        TellingTest test = new TellingTest();
        test.counts();
        test.places();
        test.bores();
        test.leggers();
        test.boatsAndCrews();
        test.worst();
        test.mean();
        test.digest();
        test.check.end();
    }

    /** In minute 4 the boat k is out, m in the tunnel, n and o wait. */
    private static TunnelLeggers inMinute4() {
        TunnelLeggers x = Check.taught("bore a long 4 low 4; bore b long 2 low 9; shaft s at 5 draught 1; "
            + "shaft t at 0 draught 3; legger p strength 9 lungs 9; legger q strength 8 lungs 2; legger r strength 3 lungs 4;"
            + "legger u strength 1 lungs 9; boat k weight 3 from west due 0 by p and q; boat m weight 60 from west due 2 by u and r; "
            + "boat n weight 7 from east due 30 by q and p; boat o weight 8 from west due 999 by r and u; whistle east when 1 = 2; "
            + "rest p when 1 = 2; whistle west when 1 = 2;");
        x.pass(4);
        return x;
    }

    private void counts() {
        TunnelLeggers x = inMinute4();
        x.feed(0, 0, 0, 0, 0);
        // m spoils 6 and 6 of place 0, where a shaft brings 3 and 3; k spoilt 6 of place 5, where 4 times 1 came.
        long[] due = {4, 0, 2, 6, 2, 4, 4, 3, 2, 1, 1, 592, 2, 20};
        for (int what = 0; what < due.length; what++) {
            check.same("count(" + what + ")", x.count(what), due[what]);
        }
        x.whistle(1);
        check.same("count(1)", x.count(1), 1);
        check.outOfBounds(x, "count(14)", () -> x.count(14));
        check.outOfBounds(x, "count(-1)", () -> x.count(-1));
        check.outOfBounds(x, "count(MIN)", () -> x.count(Integer.MIN_VALUE));
    }

    private void places() {
        TunnelLeggers x = inMinute4();
        long[][] due = {{0, 94, 1, 1}, {0, 100, 0, -1}, {0, 100, 0, -1}, {0, 100, 0, -1}, {1, 100, 1, -1}, {1, 98, 0, -1}};
        for (int p = 0; p < due.length; p++) {
            for (int what = 0; what < 4; what++) {
                check.same("place(" + p + ", " + what + ")", x.place(p, what), due[p][what]);
            }
        }
        check.outOfBounds(x, "place(6, 0)", () -> x.place(6, 0));
        check.outOfBounds(x, "place(-1, 0)", () -> x.place(-1, 0));
        check.outOfBounds(x, "place(0, 4)", () -> x.place(0, 4));
        check.outOfBounds(x, "place(0, -1)", () -> x.place(0, -1));
        check.outOfBounds(x, "place(MAX, MIN)", () -> x.place(Integer.MAX_VALUE, Integer.MIN_VALUE));
    }

    private void bores() {
        TunnelLeggers x = inMinute4();
        long[][] due = {{4, 4, 0, 394}, {2, 9, 4, 198}};
        for (int b = 0; b < due.length; b++) {
            for (int what = 0; what < 4; what++) {
                check.same("bore(" + b + ", " + what + ")", x.bore(b, what), due[b][what]);
            }
        }
        check.outOfBounds(x, "bore(2, 0)", () -> x.bore(2, 0));
        check.outOfBounds(x, "bore(-1, 0)", () -> x.bore(-1, 0));
        check.outOfBounds(x, "bore(0, 4)", () -> x.bore(0, 4));
        check.outOfBounds(x, "bore(0, -1)", () -> x.bore(0, -1));
    }

    private void leggers() {
        TunnelLeggers x = inMinute4();
        long[][] due = {{9, 9, 90, 0, -1, 7, 0}, {8, 2, 20, 0, -1, 7, 4}, {3, 4, 40, 1, 1, 0, -1}, {1, 9, 90, 1, 1, 0, -1}};
        for (int l = 0; l < due.length; l++) {
            for (int what = 0; what < 7; what++) {
                check.same("legger(" + l + ", " + what + ")", x.legger(l, what), due[l][what]);
            }
        }
        check.outOfBounds(x, "legger(4, 0)", () -> x.legger(4, 0));
        check.outOfBounds(x, "legger(-1, 0)", () -> x.legger(-1, 0));
        check.outOfBounds(x, "legger(0, 7)", () -> x.legger(0, 7));
        check.outOfBounds(x, "legger(0, -1)", () -> x.legger(0, -1));
    }

    private void boatsAndCrews() {
        TunnelLeggers x = inMinute4();
        long[][] due = {{3, 0, 0, 2, -1, 0, 1}, {60, 0, 2, 1, 0, 7, -1}, {7, 1, 30, 0, -1, 0, -1}, {8, 0, 999, 0, -1, 0, -1}};
        int[][] crew = {{0, 1}, {3, 2}, {1, 0}, {2, 3}};
        for (int b = 0; b < due.length; b++) {
            for (int what = 0; what < 7; what++) {
                check.same("boat(" + b + ", " + what + ")", x.boat(b, what), due[b][what]);
            }
            check.same("crew(" + b + ", 0)", x.crew(b, 0), crew[b][0]);
            check.same("crew(" + b + ", 1)", x.crew(b, 1), crew[b][1]);
        }
        check.outOfBounds(x, "boat(4, 0)", () -> x.boat(4, 0));
        check.outOfBounds(x, "boat(-1, 0)", () -> x.boat(-1, 0));
        check.outOfBounds(x, "boat(0, 7)", () -> x.boat(0, 7));
        check.outOfBounds(x, "boat(0, -1)", () -> x.boat(0, -1));
        check.outOfBounds(x, "crew(4, 0)", () -> x.crew(4, 0));
        check.outOfBounds(x, "crew(-1, 0)", () -> x.crew(-1, 0));
        check.outOfBounds(x, "crew(0, 2)", () -> x.crew(0, 2));
        check.outOfBounds(x, "crew(0, -1)", () -> x.crew(0, -1));
    }

    private void worst() {
        TunnelLeggers x = new TunnelLeggers();
        check.same("worst() without places", x.worst(), -1);
        x = Check.taught("bore a long 3 low 0; legger p strength 9 lungs 9; legger q strength 9 lungs 9; "
            + "boat k weight 18 from east due 0 by p and q; whistle east when 1 = 1;");
        check.same("worst() of all the same", x.worst(), 0);
        x.pass(1);
        check.same("worst", x.worst(), 1);
        check.same("place(1, 1)", x.place(1, 1), 94);
        // Two minutes at place 1, then place 0: 88 and 94.
        x.pass(2);
        check.same("place(1, 1)", x.place(1, 1), 88);
        check.same("place(0, 1)", x.place(0, 1), 94);
        check.same("worst", x.worst(), 1);
        // A boat of one minute at place 1 and of one at place 2
        x = Check.taught("bore a long 3 low 0; legger p strength 9 lungs 9; legger q strength 9 lungs 9; "
            + "boat k weight 9 from west due 0 by p and q; boat m weight 18 from west due 0 by q and p;");
        x.pass(1);
        check.same("worst", x.worst(), 2);
        x.pass(12);
        check.same("place(1, 1)", x.place(1, 1), 88);
        check.same("place(2, 1)", x.place(2, 1), 94);
        x.pass(1);
        check.same("place(2, 1)", x.place(2, 1), 88);
        check.same("worst() of two as bad", x.worst(), 1);
    }

    private void mean() {
        TunnelLeggers x = new TunnelLeggers();
        check.sameDouble("mean() without leggers", x.mean(), 0.0);
        x = Check.taught("legger p strength 1 lungs 1;");
        check.sameDouble("mean", x.mean(), 10.0);
        x = Check.taught("legger p strength 1 lungs 1; legger q strength 1 lungs 1; legger r strength 1 lungs 3;");
        check.sameDouble("mean", x.mean(), 50.0 / 3);
        x = Check.taught("bore a long 1 low 0; legger p strength 1 lungs 2; legger q strength 1 lungs 9; "
            + "boat k weight 60 from west due 0 by p and q;");
        x.pass(11);
        check.sameDouble("mean", x.mean(), 54.0);
        x.pass(1);
        check.sameDouble("mean", x.mean(), 52.0);
    }

    private void digest() {
        TunnelLeggers x = new TunnelLeggers();
        long due = 857;
        for (int i = 0; i < 14; i++) {
            due *= 31;
        }
        check.same("digest() of a new object", x.digest(), due);
        x.feed(0, 0, 0, 0, 0);
        check.same("digest() with bytes on the tape", x.digest(), due + 20);
        x = inMinute4();
        long d = 857;
        for (int what = 0; what < 14; what++) {
            d = d * 31 + x.count(what);
        }
        for (int i = 0; i < 6 * 4; i++) {
            d = d * 31 + x.place(i / 4, i % 4);
        }
        for (int i = 0; i < 2 * 4; i++) {
            d = d * 31 + x.bore(i / 4, i % 4);
        }
        for (int i = 0; i < 4 * 7; i++) {
            d = d * 31 + x.legger(i / 7, i % 7);
        }
        for (int i = 0; i < 4 * 9; i++) {
            d = d * 31 + (i % 9 < 7 ? x.boat(i / 9, i % 9) : x.crew(i / 9, i % 9 - 7));
        }
        check.same("digest", x.digest(), d);
    }
}
