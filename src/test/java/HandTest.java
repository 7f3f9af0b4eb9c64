/** Promises 14 to 17: what is done by hand. */
public final class HandTest {
    private static final String LIST = "bore a long 3 low 9; legger p strength 9 lungs 9; legger q strength 9 lungs 9; "
        + "legger r strength 3 lungs 9; boat k weight 18 from west due 0 by p and q; boat m weight 60 from east due 5 by q and r; ";

    private final Check check = new Check();

    public static void main(String[] args) {
        HandTest test = new HandTest();
        test.whistle();
        test.air();
        test.cap();
        test.again();
        test.againFromEast();
        test.check.end();
    }

    private void whistle() {
        TunnelLeggers x = Check.taught(LIST + "whistle west when minute = 2;");
        check.same("whistle(1)", x.whistle(1), 0);
        check.same("count(1)", x.count(1), 1);
        check.same("whistle(1)", x.whistle(1), 1);
        check.illegal(x, "whistle(2)", () -> x.whistle(2));
        check.illegal(x, "whistle(-1)", () -> x.whistle(-1));
        x.pass(2);
        check.same("count(1)", x.count(1), 1);
        x.pass(1);
        check.same("count(1) by an order", x.count(1), 0);
        check.same("boat(0, 3)", x.boat(0, 3), 1);
        check.same("whistle(0)", x.whistle(0), 0);
        check.same("whistle(1) of a new object", new TunnelLeggers().whistle(1), 0);
    }

    private void air() {
        TunnelLeggers x = Check.taught(LIST);
        check.same("air() of good air", x.air(), 0);
        x.pass(3);
        check.same("count(11)", x.count(11), 300 - 12 - 6);
        check.same("air", x.air(), 18);
        check.same("count(11)", x.count(11), 300);
        check.same("place(1, 1)", x.place(1, 1), 100);
        check.same("air", x.air(), 0);
        check.same("air() without places", new TunnelLeggers().air(), 0);
    }

    private void cap() {
        TunnelLeggers x = Check.taught(LIST);
        check.same("cap(0)", x.cap(0), -1);
        x.pass(1);
        check.same("legger(0, 6)", x.legger(0, 6), 0);
        check.same("place(0, 2)", x.place(0, 2), 2);
        check.same("cap(1)", x.cap(1), 0);
        check.same("place(0, 2)", x.place(0, 2), 1);
        check.same("count(12)", x.count(12), 1);
        check.same("legger(1, 3)", x.legger(1, 3), 1);
        check.same("legger(0, 3)", x.legger(0, 3), 0);
        check.same("cap(1)", x.cap(1), -1);
        check.same("cap(2)", x.cap(2), -1);
        x.pass(2);
        check.same("legger(1, 6)", x.legger(1, 6), 2);
        check.same("legger(0, 6)", x.legger(0, 6), 0);
        check.same("cap(1)", x.cap(1), 2);
        check.outOfBounds(x, "cap(3)", () -> x.cap(3));
        check.outOfBounds(x, "cap(-1)", () -> x.cap(-1));
        TunnelLeggers empty = new TunnelLeggers();
        check.outOfBounds(empty, "cap(0)", () -> empty.cap(0));
    }

    private void again() {
        TunnelLeggers x = Check.taught(LIST);
        check.refused(x, "again() of one that waits", IllegalStateException.class, () -> x.again(0, 0));
        x.pass(1);
        check.refused(x, "again() of one in the tunnel", IllegalStateException.class, () -> x.again(0, 0));
        check.illegal(x, "again(0, -1)", () -> x.again(0, -1));
        check.illegal(x, "again(0, 10000)", () -> x.again(0, 10000));
        check.outOfBounds(x, "again(2, 10000)", () -> x.again(2, 10000));
        check.outOfBounds(x, "again(-1, 0)", () -> x.again(-1, 0));
        check.same("pass", x.pass(3), 1);
        check.same("boat(0, 6)", x.boat(0, 6), 3);
        check.illegal(x, "again(0, -1) of one that is out", () -> x.again(0, -1));
        check.illegal(x, "again(0, 10000) of one that is out", () -> x.again(0, 10000));
        check.same("again", x.again(0, 20), 1);
        long[] due = {18, 1, 20, 0, -1, 0, -1};
        for (int what = 0; what < due.length; what++) {
            check.same("boat(0, " + what + ")", x.boat(0, what), due[what]);
        }
        check.same("legger(0, 5)", x.legger(0, 5), 9);
        check.same("legger(0, 6)", x.legger(0, 6), 0);
        check.same("count(8)", x.count(8), 2);
        check.same("count(10)", x.count(10), 0);
        check.refused(x, "again() again", IllegalStateException.class, () -> x.again(0, 0));
        x.pass(17);
        check.same("boat(0, 3)", x.boat(0, 3), 0);
        check.same("canEnter by the turn of west", x.canEnter(0), false);
        x.whistle(1);
        check.same("canEnter", x.canEnter(0), true);
    }

    private void againFromEast() {
        TunnelLeggers x = Check.taught(LIST.replace("from west", "from east") + "whistle east when 1 = 1;");
        x.pass(4);
        check.same("boat(0, 3)", x.boat(0, 3), 2);
        check.same("again", x.again(0, 9999), 0);
        check.same("boat(0, 1)", x.boat(0, 1), 0);
        check.same("boat(0, 2)", x.boat(0, 2), 9999);
        for (int i = 0; i < 83; i++) {
            x.pass(120);
        }
        check.same("count(0)", x.count(0), 9964);
        x.whistle(0);
        check.same("canEnter ahead of its due", x.canEnter(0), false);
        x.pass(35);
        x.whistle(0);
        check.same("canEnter at its due", x.canEnter(0), true);
        // It goes west to east now.
        TunnelLeggers y = Check.taught(LIST.replace("from west", "from east").replace("due 5", "due 999"));
        y.whistle(1);
        y.pass(4);
        y.again(0, 0);
        y.whistle(0);
        y.pass(10);
        check.same("boat(0, 4)", y.boat(0, 4), 0);
        y.pass(1);
        check.same("boat(0, 4)", y.boat(0, 4), 1);
    }
}
