/** Promises 19 to 22: what would be, and that asking for it changes nothing. */
public final class ForeseenTest {
    private static final String ONE_BOAT = "bore a long 3 low 9; legger p strength 5 lungs 9; legger q strength 4 lungs 3; "
        + "boat k weight 10 from west due DUE by p and q; ";

    private final Check check = new Check();

    public static void main(String[] args) {
        ForeseenTest test = new ForeseenTest();
        test.until();
        test.foresee();
        test.advise();
        test.adviseByOrders();
        test.missed();
        test.missedLosesCapsAsEver();
        test.nothingIsChanged();
        test.check.end();
    }

    private void until() {
        // The boat is out in the fourth minute.
        TunnelLeggers x = Check.taught(ONE_BOAT.replace("DUE", "0"));
        for (int minute = 0; minute < 4; minute++) {
            check.same("until", x.until(0), 4 - minute);
            x.pass(1);
        }
        check.same("until() of one that is out", x.until(0), 0);
        check.same("until", Check.taught(ONE_BOAT.replace("DUE", "296")).until(0), 300);
        check.same("until", Check.taught(ONE_BOAT.replace("DUE", "297")).until(0), -1);
        x.again(0, 0);
        check.same("until() of one that waits for the turn", x.until(0), -1);
        x.whistle(1);
        check.same("until() behind the walk", x.until(0) > 10, true);
        check.same("foresee() by the turn as it is", x.foresee(30, 10), 1);
        check.outOfBounds(x, "until(1)", () -> x.until(1));
        check.outOfBounds(x, "until(-1)", () -> x.until(-1));
    }

    private void foresee() {
        TunnelLeggers x = Check.taught(ONE_BOAT.replace("DUE", "0") + "boat m weight 1 from east due 9 by p and q;");
        // Behind 3 minutes 6 of each place are spoilt; the caps need a low of more than 7 and of more than 8.
        long[][] due = {{1, 1, 0, 294, 2}, {1, 1, 0, 288, 2}, {1, 1, 0, 282, 2}, {1, 0, 1, 282, 2}};
        for (int minutes = 1; minutes <= 4; minutes++) {
            for (int what = 8; what <= 12; what++) {
                check.same("foresee(" + minutes + ", " + what + ")", x.foresee(minutes, what), due[minutes - 1][what - 8]);
            }
        }
        check.same("foresee(120, 10)", x.foresee(120, 10), 1);
        check.illegal(x, "foresee(0, 8)", () -> x.foresee(0, 8));
        check.illegal(x, "foresee(121, 7)", () -> x.foresee(121, 7));
        check.illegal(x, "foresee(-1, 13)", () -> x.foresee(-1, 13));
        check.outOfBounds(x, "foresee(1, 7)", () -> x.foresee(1, 7));
        check.outOfBounds(x, "foresee(120, 13)", () -> x.foresee(120, 13));
        check.outOfBounds(x, "foresee(120, -8)", () -> x.foresee(120, -8));
    }

    private void advise() {
        TunnelLeggers x = Check.taught(ONE_BOAT.replace("DUE", "0"));
        check.same("advise(4)", x.advise(4), 0);
        x.whistle(1);
        check.same("advise(4), whatever the turn is", x.advise(4), 0);
        x = Check.taught(ONE_BOAT.replace("DUE", "0").replace("from west", "from east"));
        check.same("advise(3) of both as good", x.advise(3), 0);
        check.same("advise(4)", x.advise(4), 1);
        TunnelLeggers empty = new TunnelLeggers();
        check.same("advise(120) without boats", empty.advise(120), 0);
        check.illegal(empty, "advise(0)", () -> empty.advise(0));
        check.illegal(empty, "advise(121)", () -> empty.advise(121));
        check.illegal(empty, "advise(MAX)", () -> empty.advise(Integer.MAX_VALUE));
    }

    private void adviseByOrders() {
        String boats = ONE_BOAT.replace("DUE", "0").replace("from west", "from east");
        check.same("advise(9) under an order", Check.taught(boats + "whistle west when 1 = 1;").advise(9), 0);
        check.same("advise(9)", Check.taught(boats + "whistle west when turn = 0;").advise(9), 1);
        check.same("advise(9) of both as good", Check.taught(boats + "whistle east when turn = 0;").advise(9), 0);
        check.same("advise(9)", Check.taught(boats + "whistle east when turn = 0; whistle west when turn = 1 and waits east = 1;")
            .advise(9), 0);
    }

    private void missed() {
        // 9 and 1 of 10: out in the first minute; without the strong one 1 a minute.
        String list = "bore a long 1 low 0; legger w strength 2 lungs 9; legger q strength 1 lungs 9; "
            + "legger p strength 9 lungs 9; boat k weight 9 from west due 0 by q and p; ";
        TunnelLeggers x = Check.taught(list);
        check.same("missed(1)", x.missed(1), 2);
        check.same("missed(15)", x.missed(15), 2);
        // Of several as much missed the smallest number: no boat at all is out behind so few minutes.
        x = Check.taught(list.replace("weight 9", "weight 60"));
        check.same("missed(1) of all the same", x.missed(1), 0);
        check.same("missed() without leggers", new TunnelLeggers().missed(1), -1);
        TunnelLeggers y = x;
        check.illegal(y, "missed(0)", () -> y.missed(0));
        check.illegal(y, "missed(121)", () -> y.missed(121));
        TunnelLeggers empty = new TunnelLeggers();
        check.illegal(empty, "missed(0) without leggers", () -> empty.missed(0));
        // Nobody is missed for what has been pushed before.
        x = Check.taught(list.replace("weight 9", "weight 11"));
        x.pass(1);
        check.same("boat(0, 5)", x.boat(0, 5), 10);
        check.same("missed(1)", x.missed(1), 2);
        x = Check.taught(list.replace("weight 9", "weight 10"));
        check.same("missed(1) of two as much missed", x.missed(1), 1);
    }

    private void missedLosesCapsAsEver() {
        // The second boat goes in only when the first legger has lost the cap, as this one does without pushing too.
        TunnelLeggers x = Check.taught("bore a long 1 low 9; legger p strength 9 lungs 9; legger q strength 9 lungs 9; "
            + "legger r strength 9 lungs 9; legger s strength 9 lungs 9; boat k weight 1 from west due 0 by p and q; "
            + "boat m weight 18 from west due 1 by r and s; rest r when capped p;");
        check.same("missed(2)", x.missed(2), 2);
        check.same("pass", x.pass(2), 2);
    }

    private void nothingIsChanged() {
        TunnelLeggers x = Check.taught("bore a long 5 low 9; shaft s at 2 draught 4; legger p strength 9 lungs 9; "
            + "legger q strength 3 lungs 4; legger r strength 5 lungs 5; boat k weight 9 from west due 0 by p and q; "
            + "boat m weight 7 from east due 3 by q and r; boat n weight 8 from west due 20 by r and p; "
            + "whistle east when waits west = 0; whistle west when waits east = 0;");
        check.same("until(2) is foreseen", x.until(2) > 20, true);
        for (int i = 0; i < 25; i++) {
            long before = x.digest();
            int[] foreseen = new int[5];
            for (int what = 8; what <= 12; what++) {
                foreseen[what - 8] = x.foresee(1, what);
            }
            int until = x.until(2);
            x.advise(40);
            x.missed(40);
            check.same("digest() behind what would be", x.digest(), before);
            x.pass(1);
            for (int what = 8; what <= 12; what++) {
                check.same("count(" + what + ") as foreseen", x.count(what), foreseen[what - 8]);
            }
            check.same("until(2) a minute later", x.until(2), until > 0 ? until - 1 : until);
        }
    }
}
