import java.math.BigInteger;

/** The edges of the promises 6 to 17 and 19 to 24: an about() for each sentence that names one. */
public final class CallEdgesTest {
    private static final int MIN = Integer.MIN_VALUE;
    private static final int MAX = Integer.MAX_VALUE;
    private static final String FOUR = Texts.leggers(9, 9, 9, 9, 1, 9, 1, 9);

    private final Check check = new Check();

    public static void main(String[] args) {
        CallEdgesTest test = new CallEdgesTest();
        test.count();
        test.place();
        test.bore();
        test.legger();
        test.boat();
        test.crew();
        test.canEnter();
        test.worst();
        test.whistle();
        test.air();
        test.cap();
        test.again();
        test.until();
        test.foresee();
        test.advise();
        test.missed();
        test.mean();
        test.digest();
        test.all512Calls();
        test.check.end();
    }

    /** A call with a number that has to be in a range. */
    private interface Call {
        void with(int number);
    }

    /** All numbers that are refused, at the edge and far from it; those of the range are not. */
    private void indexes(TunnelLeggers x, String name, int size, Call call) {
        for (int wrong : new int[] {-1, size, size + 1, -size - 1, MIN, MAX}) {
            check.outOfBounds(x, name + " with " + wrong, () -> call.with(wrong));
        }
        if (size > 0) {
            call.with(0);
            call.with(size - 1);
        }
    }

    private void minutes(TunnelLeggers x, String name, Call call) {
        for (int wrong : new int[] {0, -1, 121, 1000, MIN, MAX}) {
            check.illegal(x, name + " with " + wrong, () -> call.with(wrong));
        }
        call.with(1);
        call.with(120);
    }

    /** All that there can be: 60 places, 6 leggers and 8 boats. */
    private static TunnelLeggers full() {
        return Check.taught("bore a long 12 low 9; bore b long 12 low 8; bore c long 12 low 7; bore d long 12 low 6; "
            + "bore e long 12 low 5; " + Texts.leggers(9, 9, 8, 8, 7, 7, 6, 6, 5, 5, 1, 1)
            + Texts.lines(7, "boat k", " weight 60 from west due 0 by p and q; ")
            + "boat m weight 1 from east due 999 by u and p; ");
    }

    // ---- promises 6 to 11

    private void count() {
        check.about("6: IndexOutOfBoundsException if what is not 0 to 13");
        TunnelLeggers x = full();
        indexes(x, "count", 14, x::count);
        TunnelLeggers empty = new TunnelLeggers();
        indexes(empty, "count() of a new object", 14, empty::count);
        check.about("6: 3 places, 4 shafts, 11 all air: also with as many as can be");
        check.same("count(2)", x.count(2), 5);
        check.same("count(3)", x.count(3), 60);
        check.same("count(5)", x.count(5), 6);
        check.same("count(6)", x.count(6), 8);
        check.same("count(8)", x.count(8), 8);
        check.same("count(11)", x.count(11), 6000);
        check.about("6: 8 boats that wait, 9 boats in the tunnel, 10 boats that are out");
        TunnelLeggers y = Check.taught(Texts.places(60) + FOUR + "boat k weight 1 from west due 0 by p and q; "
            + "boat m weight 60 from west due 1 by r and s; boat n weight 60 from east due 999 by r and s;");
        int[][] due = {{3, 0, 0}, {2, 1, 0}, {1, 2, 0}, {1, 2, 0}, {1, 1, 1}};
        for (int[] boats : due) {
            for (int what = 8; what <= 10; what++) {
                check.same("in minute " + y.count(0) + " count(" + what + ")", y.count(what), boats[what - 8]);
            }
            y.pass(1);
        }
        check.about("6: 12 caps that lie somewhere");
        TunnelLeggers z = full();
        check.same("count(12)", z.count(12), 0);
        z.pass(1);
        check.same("count(12)", z.count(12), 2);
        z.cap(0);
        check.same("count(12)", z.count(12), 1);
        z.cap(1);
        check.same("count(12)", z.count(12), 0);
        check.about("6: 13 bytes of the tape");
        z.feed(0, 0, 0, 0, 0);
        check.same("count(13)", z.count(13), 20);
        z.trim(7);
        check.same("count(13)", z.count(13), 7);
    }

    private void place() {
        check.about("7: IndexOutOfBoundsException if there is no such place, or what is not 0 to 3");
        TunnelLeggers x = full();
        indexes(x, "place", 60, p -> x.place(p, 0));
        indexes(x, "what of place(0)", 4, what -> x.place(0, what));
        indexes(x, "what of place(59)", 4, what -> x.place(59, what));
        check.outOfBounds(x, "place(60, 4)", () -> x.place(60, 4));
        TunnelLeggers small = Check.taught("bore a long 1 low 0;");
        indexes(small, "place() of one", 1, p -> small.place(p, 1));
        TunnelLeggers empty = new TunnelLeggers();
        indexes(empty, "place() of none", 0, p -> empty.place(p, 1));
        check.about("7: 0 its bore");
        for (int p = 0; p < 60; p++) {
            check.same("place(" + p + ", 0)", x.place(p, 0), p / 12);
        }
        check.about("7: 2 caps that lie there, 3 the boat there, -1 for none");
        check.same("place(0, 2)", x.place(0, 2), 0);
        check.same("place(0, 3)", x.place(0, 3), -1);
        x.pass(1);
        check.same("place(0, 2)", x.place(0, 2), 2);
        check.same("place(0, 3)", x.place(0, 3), 0);
        check.same("place(1, 3)", x.place(1, 3), -1);
        check.same("place(59, 3)", x.place(59, 3), -1);
    }

    private void bore() {
        check.about("8: IndexOutOfBoundsException if there is no such bore, or what is not 0 to 3");
        TunnelLeggers x = full();
        indexes(x, "bore", 5, b -> x.bore(b, 0));
        indexes(x, "what of bore(0)", 4, what -> x.bore(0, what));
        indexes(x, "what of bore(4)", 4, what -> x.bore(4, what));
        TunnelLeggers empty = new TunnelLeggers();
        indexes(empty, "bore() of none", 0, b -> empty.bore(b, 0));
        check.about("8: 0 its places, 1 its low, 2 its first place, 3 the air of its places, added");
        for (int b = 0; b < 5; b++) {
            check.same("bore(" + b + ", 0)", x.bore(b, 0), 12);
            check.same("bore(" + b + ", 1)", x.bore(b, 1), 9 - b);
            check.same("bore(" + b + ", 2)", x.bore(b, 2), 12 * b);
            check.same("bore(" + b + ", 3)", x.bore(b, 3), 1200);
        }
        // The last place of one bore, and the first one of the next
        TunnelLeggers y = Check.taught("bore a long 1 low 0; bore b long 2 low 0; bore c long 1 low 0; " + FOUR
            + "boat k weight 9 from west due 0 by p and q;");
        y.pass(1);
        check.same("boat(0, 4)", y.boat(0, 4), 2);
        int[] due = {100, 194, 100};
        for (int b = 0; b < 3; b++) {
            check.same("bore(" + b + ", 3)", y.bore(b, 3), due[b]);
        }
    }

    private void legger() {
        check.about("9: IndexOutOfBoundsException if there is no such legger, or what is not 0 to 6");
        TunnelLeggers x = full();
        indexes(x, "legger", 6, l -> x.legger(l, 0));
        indexes(x, "what of legger(0)", 7, what -> x.legger(0, what));
        indexes(x, "what of legger(5)", 7, what -> x.legger(5, what));
        TunnelLeggers empty = new TunnelLeggers();
        indexes(empty, "legger() of none", 0, l -> empty.legger(l, 0));
        check.about("9: 4 the boat in which this one is in the tunnel, -1 for none");
        check.same("legger(0, 4) of one whose boats wait", x.legger(0, 4), -1);
        x.pass(1);
        check.same("legger(0, 4)", x.legger(0, 4), 0);
        check.same("legger(1, 4)", x.legger(1, 4), 0);
        check.same("legger(2, 4)", x.legger(2, 4), -1);
        TunnelLeggers y = Check.taught(Texts.places(1) + FOUR + "boat k weight 1 from east due 0 by p and q; "
            + "boat m weight 60 from west due 0 by r and q;");
        y.pass(1);
        check.same("legger(0, 4)", y.legger(0, 4), -1);
        check.same("legger(1, 4)", y.legger(1, 4), 1);
        check.same("legger(2, 4)", y.legger(2, 4), 1);
        check.about("9: 6 the place where the cap lies, -1 if this one has it; 3 1 with a cap, else 0");
        check.same("legger(0, 6)", x.legger(0, 6), 0);
        check.same("legger(0, 3)", x.legger(0, 3), 0);
        check.same("legger(5, 6)", x.legger(5, 6), -1);
        check.same("legger(5, 3)", x.legger(5, 3), 1);
    }

    private void boat() {
        check.about("10: IndexOutOfBoundsException if there is no such boat, or what is not 0 to 6");
        TunnelLeggers x = full();
        indexes(x, "boat", 8, b -> x.boat(b, 0));
        indexes(x, "what of boat(0)", 7, what -> x.boat(0, what));
        indexes(x, "what of boat(7)", 7, what -> x.boat(7, what));
        TunnelLeggers empty = new TunnelLeggers();
        indexes(empty, "boat() of none", 0, b -> empty.boat(b, 0));
        check.about("10: 4 its place, -1 without one, 5 how much it has pushed, 0 if it is not in the tunnel, "
            + "6 the minute in which it came out, -1 if it did not");
        TunnelLeggers y = Check.taught(Texts.places(1) + FOUR + "boat k weight 19 from west due 1 by p and q;");
        // 18, then 16 of the air 94 are 34: out with 15 or 34 left, which is told as 0.
        int[][] due = {{0, -1, 0, -1}, {0, -1, 0, -1}, {1, 0, 18, -1}, {2, -1, 0, 2}, {2, -1, 0, 2}};
        for (int[] its : due) {
            for (int what = 3; what <= 6; what++) {
                check.same("in minute " + y.count(0) + " boat(0, " + what + ")", y.boat(0, what), its[what - 3]);
            }
            y.pass(1);
        }
        check.about("10: 1 0 from west, 1 from east, 2 its due");
        check.same("boat(0, 1)", x.boat(0, 1), 0);
        check.same("boat(7, 1)", x.boat(7, 1), 1);
        check.same("boat(0, 2)", x.boat(0, 2), 0);
        check.same("boat(7, 2)", x.boat(7, 2), 999);
    }

    private void crew() {
        check.about("11: IndexOutOfBoundsException if there is no such boat, or place is not 0 or 1");
        TunnelLeggers x = full();
        indexes(x, "crew", 8, b -> x.crew(b, 0));
        indexes(x, "place of crew(0)", 2, place -> x.crew(0, place));
        indexes(x, "place of crew(7)", 2, place -> x.crew(7, place));
        TunnelLeggers empty = new TunnelLeggers();
        indexes(empty, "crew() of none", 0, b -> empty.crew(b, 0));
        check.same("crew(7, 0)", x.crew(7, 0), 5);
        check.same("crew(7, 1)", x.crew(7, 1), 0);
    }

    // ---- promises 12 and 13

    private void canEnter() {
        check.about("12: IndexOutOfBoundsException if there is no such boat");
        TunnelLeggers x = full();
        indexes(x, "canEnter", 8, x::canEnter);
        TunnelLeggers empty = new TunnelLeggers();
        indexes(empty, "canEnter() of none", 0, empty::canEnter);
        check.about("12: as all is now (nothing is changed)");
        long before = x.digest();
        check.same("canEnter(6)", x.canEnter(6), true);
        check.same("canEnter(7)", x.canEnter(7), false);
        check.same("digest", x.digest(), before);
    }

    private void worst() {
        check.about("13: -1 without places");
        check.same("worst() of a new object", new TunnelLeggers().worst(), -1);
        check.same("worst() of leggers alone", Check.taught(FOUR).worst(), -1);
        check.about("13: of several the one with the smallest number");
        check.same("worst() of one", Check.taught(Texts.places(1)).worst(), 0);
        check.same("worst() of all the same", Check.taught(Texts.places(60)).worst(), 0);
        // A minute at place 1, and one at each of the next two
        TunnelLeggers x = Check.taught(Texts.places(4) + FOUR + "boat k weight 16 from west due 0 by p and q;");
        int[] due = {1, 1, 1, 1};
        for (int its : due) {
            x.pass(1);
            check.same("worst", x.worst(), its);
        }
        check.same("place(1, 1)", x.place(1, 1), 94);
        check.same("place(2, 1)", x.place(2, 1), 94);
        check.about("13: the place with the least air");
        TunnelLeggers y = Check.taught(Texts.places(60) + FOUR + "boat k weight 60 from east due 0 by r and s;");
        y.whistle(1);
        y.pass(1);
        check.same("worst() is the last place", y.worst(), 59);
        y.pass(20);
        check.same("place(59, 1)", y.place(59, 1), 0);
        check.same("worst", y.worst(), 59);
        y.air();
        check.same("worst() of all the same", y.worst(), 0);
    }

    // ---- promises 14 to 17

    private void whistle() {
        check.about("14: IllegalArgumentException if turn is not 0 or 1");
        TunnelLeggers x = new TunnelLeggers();
        for (int wrong : new int[] {-1, 2, 3, MIN, MAX}) {
            check.illegal(x, "whistle(" + wrong + ")", () -> x.whistle(wrong));
        }
        check.about("14: Returns the turn before");
        check.same("whistle(0)", x.whistle(0), 0);
        check.same("whistle(1)", x.whistle(1), 0);
        check.same("whistle(1)", x.whistle(1), 1);
        for (int wrong : new int[] {-1, 2}) {
            check.illegal(x, "whistle(" + wrong + ")", () -> x.whistle(wrong));
        }
        check.same("whistle(0)", x.whistle(0), 1);
        check.same("count(1)", x.count(1), 0);
        check.about("14: till an order says otherwise");
        TunnelLeggers y = Check.taught(FOUR + "whistle west when minute = 3;");
        y.whistle(1);
        y.pass(3);
        check.same("count(1)", y.count(1), 1);
        y.pass(1);
        check.same("count(1)", y.count(1), 0);
    }

    private void air() {
        check.about("15: Returns by how much it is better, added (0 without places, and if all is 100)");
        check.same("air() of a new object", new TunnelLeggers().air(), 0);
        TunnelLeggers x = Check.taught(Texts.places(60) + FOUR + "boat k weight 60 from east due 0 by r and s;");
        check.same("air", x.air(), 0);
        x.whistle(1);
        x.pass(120);
        check.same("place(59, 1)", x.place(59, 1), 0);
        check.same("air() of the air 0 at one place", x.air(), 100);
        check.about("15: the air of all places is 100");
        for (int p = 0; p < 60; p++) {
            check.same("place(" + p + ", 1)", x.place(p, 1), 100);
        }
        check.same("air", x.air(), 0);
        TunnelLeggers y = Check.taught(Texts.places(4) + FOUR + "boat k weight 16 from west due 0 by p and q;");
        y.pass(4);
        // Three minutes in the tunnel, one at each of the places 1 to 3
        check.same("air", y.air(), 18);
        check.same("count(11)", y.count(11), 400);
    }

    private void cap() {
        check.about("16: IndexOutOfBoundsException if there is no such legger");
        TunnelLeggers x = full();
        indexes(x, "cap", 6, x::cap);
        TunnelLeggers empty = new TunnelLeggers();
        indexes(empty, "cap() of none", 0, empty::cap);
        check.about("16: Returns the place where the old one lay, -1 if this one had it");
        TunnelLeggers y = Check.taught("bore a long 12 low 0; bore b long 12 low 0; bore c long 12 low 0; bore d long 12 low 0; "
            + "bore e long 12 low 9; " + FOUR + "boat k weight 60 from east due 0 by q and r;");
        y.whistle(1);
        y.pass(1);
        check.same("cap(2)", y.cap(2), -1);
        check.same("cap(0)", y.cap(0), -1);
        check.same("cap(1)", y.cap(1), 59);
        check.about("16: the old one, if it lies somewhere, is no more");
        check.same("place(59, 2)", y.place(59, 2), 0);
        check.same("count(12)", y.count(12), 0);
        check.same("legger(1, 3)", y.legger(1, 3), 1);
        check.same("legger(1, 6)", y.legger(1, 6), -1);
        check.same("cap(1) again", y.cap(1), -1);
        check.same("the place 0 is a place as well", lostAtPlace0().cap(0), 0);
    }

    private static TunnelLeggers lostAtPlace0() {
        TunnelLeggers x = Check.taught("bore a long 1 low 9; " + FOUR + "boat k weight 60 from west due 0 by p and r;");
        x.pass(1);
        return x;
    }

    private void again() {
        againIndexes();
        againDues();
        againOfOneNotOut();
        againFromBothEnds();
    }

    /** The boat k is out, m in the tunnel, and n waits. */
    private static TunnelLeggers ofEachSort() {
        TunnelLeggers x = Check.taught(Texts.places(1) + FOUR + "boat k weight 1 from west due 0 by p and q; "
            + "boat m weight 60 from west due 1 by r and s; boat n weight 60 from west due 999 by r and s;");
        x.pass(2);
        return x;
    }

    private void againIndexes() {
        check.about("17: IndexOutOfBoundsException if there is no such boat (named first of all)");
        TunnelLeggers x = ofEachSort();
        for (int wrong : new int[] {-1, 3, MIN, MAX}) {
            for (int due : new int[] {0, -1, 10000}) {
                check.outOfBounds(x, "again(" + wrong + ", " + due + ")", () -> x.again(wrong, due));
            }
        }
        TunnelLeggers empty = new TunnelLeggers();
        check.outOfBounds(empty, "again(0, 0) of none", () -> empty.again(0, 0));
        check.outOfBounds(empty, "again(0, -1) of none", () -> empty.again(0, -1));
    }

    private void againDues() {
        check.about("17: IllegalArgumentException if due is not 0 to 9999 (named before the last one)");
        TunnelLeggers x = ofEachSort();
        for (int wrong : new int[] {-1, 10000, MIN, MAX}) {
            for (int boat = 0; boat < 3; boat++) {
                int b = boat;
                check.illegal(x, "again(" + b + ", " + wrong + ")", () -> x.again(b, wrong));
            }
        }
        for (int due : new int[] {0, 1, 9998, 9999}) {
            TunnelLeggers y = ofEachSort();
            check.same("again(0, " + due + ")", y.again(0, due), 1);
            check.same("boat(0, 2)", y.boat(0, 2), due);
        }
    }

    private void againOfOneNotOut() {
        check.about("17: IllegalStateException if it is not out");
        TunnelLeggers x = ofEachSort();
        for (int due : new int[] {0, 9999}) {
            check.refused(x, "again() in the tunnel", IllegalStateException.class, () -> x.again(1, due));
            check.refused(x, "again() of one that waits", IllegalStateException.class, () -> x.again(2, due));
        }
        check.same("again(0, 0)", x.again(0, 0), 1);
        check.refused(x, "again() of one sent back", IllegalStateException.class, () -> x.again(0, 0));
    }

    private void againFromBothEnds() {
        check.about("17: back to wait, at the other end than before; the minute in which it came out is told as -1 then");
        TunnelLeggers x = Check.taught(Texts.places(3) + FOUR + "boat k weight 1 from west due 5 by p and q;");
        check.same("pass", x.pass(6), 1);
        check.same("boat(0, 6)", x.boat(0, 6), 5);
        check.same("again", x.again(0, 0), 1);
        int[] due = {1, 1, 0, 0, -1, 0, -1};
        for (int what = 1; what < due.length; what++) {
            check.same("boat(0, " + what + ")", x.boat(0, what), due[what]);
        }
        check.same("its leggers still walk", x.legger(0, 5), 9);
        check.same("pass() by the turn of west", x.pass(20), 0);
        x.whistle(1);
        check.same("pass() by the turn of east", x.pass(1), 1);
        check.same("boat(0, 6)", x.boat(0, 6), 26);
        check.same("again() the second time", x.again(0, 7), 0);
        check.same("boat(0, 1)", x.boat(0, 1), 0);
        check.same("pass() by the turn of east", x.pass(20), 0);
        x.whistle(0);
        check.same("pass() by the turn of west", x.pass(1), 1);
    }

    // ---- promises 19 to 22

    private void until() {
        check.about("19: IndexOutOfBoundsException if there is no such boat");
        TunnelLeggers x = full();
        indexes(x, "until", 8, x::until);
        TunnelLeggers empty = new TunnelLeggers();
        indexes(empty, "until() of none", 0, empty::until);
        check.about("19: 0 if it is now");
        TunnelLeggers y = ofEachSort();
        check.same("until(0) of one that is out", y.until(0), 0);
        check.about("19: behind how many minutes it is out, at most 300; -1 if not by then");
        int[] dues = {0, 1, 298, 299, 300, 301, 999};
        for (int due : dues) {
            TunnelLeggers z = Check.taught(Texts.places(1) + FOUR + "boat k weight 18 from west due " + due + " by p and q;");
            check.same("until() with due " + due, z.until(0), due < 300 ? due + 1 : -1);
            z.pass(1);
            check.same("until() a minute later", z.until(0), due <= 300 ? due : -1);
        }
        check.same("until() of one that stays", y.until(1), -1);
        check.about("19: if nothing is done by hand (orders go on)");
        TunnelLeggers z = Check.taught(Texts.places(1) + FOUR + "boat k weight 18 from east due 0 by p and q; "
            + "whistle east when minute = 4;");
        check.same("until", z.until(0), 5);
        check.about("19 to 22: as all is now: where the boats are and how much they have pushed, the turn, the air and the caps");
        foreseenInEachMinute();
        check.about("19: nothing is changed");
        long before = y.digest();
        y.until(1);
        y.until(2);
        check.same("digest", y.digest(), before);
    }

    /** A boat goes through, waits, and goes back; in each minute the next one is foreseen from what is then. */
    private void foreseenInEachMinute() {
        TunnelLeggers x = Check.taught("bore a long 4 low 0; bore b long 2 low 9; shaft s at 3 draught 5; " + FOUR
            + "boat k weight 13 from west due 1 by p and q; boat m weight 1 from west due 2 by r and s; "
            + "whistle east when minute = 9;");
        for (int minute = 0; minute < 40; minute++) {
            long before = x.digest();
            int[] foreseen = new int[5];
            x.missed(7);
            for (int what = 8; what <= 12; what++) {
                foreseen[what - 8] = x.foresee(1, what);
            }
            int until = x.until(0);
            x.advise(9);
            check.same("until() behind advise()", x.until(0), until);
            check.same("digest", x.digest(), before);
            x.pass(1);
            for (int what = 8; what <= 12; what++) {
                check.same("in minute " + minute + " foresee(1, " + what + ")", foreseen[what - 8], x.count(what));
            }
            check.same("in minute " + minute + " until(0)", x.until(0), Math.max(until - 1, Math.min(until, 0)));
            if (minute == 15) {
                check.same("again", x.again(0, 20), 1);
            }
        }
        check.same("boat(0, 6)", x.boat(0, 6) > 20, true);
    }

    private void foresee() {
        check.about("20: IllegalArgumentException if minutes is not 1 to 120 (named first)");
        TunnelLeggers x = ofEachSort();
        minutes(x, "foresee", minutes -> x.foresee(minutes, 8));
        for (int what : new int[] {7, 13, -1, MIN, MAX}) {
            check.illegal(x, "foresee(0, " + what + ")", () -> x.foresee(0, what));
            check.illegal(x, "foresee(121, " + what + ")", () -> x.foresee(121, what));
        }
        check.about("20: IndexOutOfBoundsException if what is none of these");
        for (int what : new int[] {7, 13, 0, -1, -8, 14, MIN, MAX}) {
            check.outOfBounds(x, "foresee(1, " + what + ")", () -> x.foresee(1, what));
            check.outOfBounds(x, "foresee(120, " + what + ")", () -> x.foresee(120, what));
        }
        check.about("20: 8 to 12 as count() has it, behind so many minutes");
        for (int minutes : new int[] {1, 2, 119, 120}) {
            TunnelLeggers y = full();
            TunnelLeggers later = full();
            later.pass(minutes);
            for (int what = 8; what <= 12; what++) {
                check.same("foresee(" + minutes + ", " + what + ")", y.foresee(minutes, what), later.count(what));
            }
        }
        TunnelLeggers y = ofEachSort();
        // The boat m spoils 6 more of place 0, which has the air 94 now.
        int[] due = {1, 1, 1, 88, 0};
        for (int what = 8; what <= 12; what++) {
            check.same("foresee(1, " + what + ")", y.foresee(1, what), due[what - 8]);
        }
        check.about("20: nothing is changed");
        long before = y.digest();
        y.foresee(120, 12);
        check.same("digest", y.digest(), before);
        TunnelLeggers empty = new TunnelLeggers();
        for (int what = 8; what <= 12; what++) {
            check.same("foresee(120, " + what + ") of a new object", empty.foresee(120, what), 0);
        }
        check.same("count(0)", empty.count(0), 0);
    }

    private void advise() {
        check.about("21: IllegalArgumentException if minutes is not 1 to 120");
        TunnelLeggers x = ofEachSort();
        minutes(x, "advise", x::advise);
        TunnelLeggers empty = new TunnelLeggers();
        minutes(empty, "advise() of a new object", empty::advise);
        check.about("21: of both as good west");
        check.same("advise() of a new object", empty.advise(1), 0);
        empty.whistle(1);
        check.same("advise() of a new object", empty.advise(1), 0);
        String both = Texts.places(1) + FOUR + "boat k weight 18 from west due 0 by p and q; "
            + "boat m weight 2 from east due 0 by r and s;";
        for (int turn = 0; turn <= 1; turn++) {
            TunnelLeggers y = Check.taught(both);
            y.whistle(turn);
            check.same("advise(1) of both as good", y.advise(1), 0);
        }
        check.about("21: so that the most boats are out behind so many minutes");
        // From the east the boat is out in the third minute: 18, 16 and 15.
        TunnelLeggers y = Check.taught(Texts.places(1) + FOUR + "boat k weight 49 from east due 0 by p and q;");
        check.same("advise(2)", y.advise(2), 0);
        check.same("advise(3)", y.advise(3), 1);
        check.same("advise(120)", y.advise(120), 1);
        y = Check.taught(Texts.places(1) + FOUR + "boat k weight 49 from west due 0 by p and q;");
        y.whistle(1);
        check.same("advise(3)", y.advise(3), 0);
        check.about("21: nothing is changed");
        long before = y.digest();
        y.advise(120);
        check.same("digest", y.digest(), before);
        check.same("count(1)", y.count(1), 1);
    }

    private void missed() {
        check.about("22: IllegalArgumentException if minutes is not 1 to 120");
        TunnelLeggers x = ofEachSort();
        minutes(x, "missed", x::missed);
        TunnelLeggers empty = new TunnelLeggers();
        minutes(empty, "missed() without leggers", empty::missed);
        check.about("22: -1 without leggers");
        check.same("missed(1)", empty.missed(1), -1);
        check.same("missed(1)", Check.taught(Texts.places(60)).missed(1), -1);
        check.about("22: of several the one with the smallest number");
        check.same("missed(1) of one alone", Check.taught(Texts.leggers(1, 1)).missed(1), 0);
        check.same("missed(120) of those whom nobody needs", Check.taught(FOUR).missed(120), 0);
        String list = Texts.places(1) + FOUR + "boat k weight 18 from west due 0 by WHO; ";
        check.same("missed(1) of both", Check.taught(list.replace("WHO", "q and p")).missed(1), 0);
        check.same("missed(1) of the last two", Check.taught(list.replace("WHO", "s and r").replace("18", "2")).missed(1), 2);
        check.about("22: the legger without whose pushing the fewest boats are out behind so many minutes");
        check.same("missed(1) of 9 and 1", Check.taught(list.replace("WHO", "r and q").replace("18", "9")).missed(1), 1);
        // Without r 9 in each of two minutes are enough, less the air: 9 and 8; without q there are 1 and 0.
        check.same("missed(2)", Check.taught(list.replace("WHO", "r and q").replace("18", "17")).missed(2), 1);
        check.same("missed(2)", Check.taught(list.replace("WHO", "r and q").replace("18", "18")).missed(2), 1);
        check.about("22: as if the strength was 0 for what a boat has pushed, and for nothing else (caps are lost as ever)");
        TunnelLeggers y = Check.taught("bore a long 1 low 9; " + Texts.leggers(9, 9, 9, 9, 9, 9, 9, 9)
            + "boat k weight 1 from west due 0 by p and q; boat m weight 18 from west due 1 by r and s; rest r when capped p;");
        check.same("missed(2)", y.missed(2), 2);
        TunnelLeggers z = Check.taught(Texts.places(1) + Texts.leggers(9, 9, 9, 9, 9, 9, 9, 9)
            + "boat k weight 1 from west due 0 by p and q; boat m weight 18 from west due 1 by r and s; rest r when breath p < 90;");
        check.same("missed(2) of those who have their breath", z.missed(2), 2);
        check.about("22: nothing is changed");
        long before = y.digest();
        y.missed(120);
        check.same("digest", y.digest(), before);
        check.same("pass() with all who push", y.pass(2), 2);
    }

    // ---- promises 23 and 24

    private void mean() {
        check.about("23: 0 without any");
        check.sameDouble("mean() of a new object", new TunnelLeggers().mean(), 0.0);
        check.sameDouble("mean() of places alone", Check.taught(Texts.places(60)).mean(), 0.0);
        check.about("23: the mean breath of all leggers (not cut)");
        check.sameDouble("mean() of one", Check.taught(Texts.leggers(1, 1)).mean(), 10.0);
        check.sameDouble("mean() of three", Check.taught(Texts.leggers(1, 1, 1, 1, 1, 3)).mean(), 50.0 / 3);
        check.sameDouble("mean() of six", Check.taught(Texts.leggers(1, 9, 1, 9, 1, 9, 1, 9, 1, 9, 1, 8)).mean(), 530.0 / 6);
        TunnelLeggers x = Check.taught(Texts.places(1) + Texts.leggers(1, 2, 1, 2, 1, 9)
            + "boat k weight 60 from west due 0 by p and q;");
        x.pass(17);
        check.sameDouble("mean() of 0, 0 and 90", x.mean(), 30.0);
        check.about("23: 0 without any: also when there were some");
        x.teach();
        check.sameDouble("mean", x.mean(), 0.0);
    }

    private void digest() {
        check.about("24: d becomes d * 31 + x, which wraps around as a 64-bit integer");
        BigInteger due = BigInteger.valueOf(857);
        for (int i = 0; i < 13; i++) {
            due = due.multiply(BigInteger.valueOf(31));
        }
        due = due.multiply(BigInteger.valueOf(31));
        check.same("it is too large for 64 bits", due.bitLength() > 64, true);
        check.same("digest() of a new object", new TunnelLeggers().digest(), due.longValue());
        check.about("24: what count() tells; for each place, bore, legger and boat what they tell (all in their order)");
        digestOf(new TunnelLeggers());
        TunnelLeggers x = full();
        digestOf(x);
        x.pass(3);
        x.feed(1, 2, 3, 4, 5);
        digestOf(x);
        x = ofEachSort();
        digestOf(x);
        digestOf(Check.taught(Texts.places(2)));
        digestOf(Check.taught(FOUR));
    }

    private void digestOf(TunnelLeggers x) {
        BigInteger due = BigInteger.valueOf(857);
        for (int what = 0; what <= 13; what++) {
            due = next(due, x.count(what));
        }
        for (int i = 0; i < x.count(3) * 4; i++) {
            due = next(due, x.place(i / 4, i % 4));
        }
        for (int i = 0; i < x.count(2) * 4; i++) {
            due = next(due, x.bore(i / 4, i % 4));
        }
        for (int i = 0; i < x.count(5) * 7; i++) {
            due = next(due, x.legger(i / 7, i % 7));
        }
        for (int b = 0; b < x.count(6); b++) {
            for (int what = 0; what <= 6; what++) {
                due = next(due, x.boat(b, what));
            }
            due = next(next(due, x.crew(b, 0)), x.crew(b, 1));
        }
        check.same("digest", x.digest(), due.longValue());
    }

    private static BigInteger next(BigInteger d, int x) {
        return d.multiply(BigInteger.valueOf(31)).add(BigInteger.valueOf(x));
    }

    private void all512Calls() {
        check.about("What it is: an object is used for at most 512 calls: the last one is answered as the first");
        TunnelLeggers x = new TunnelLeggers();
        for (int call = 1; call <= 511; call++) {
            check.same("pass(120), call " + call, x.pass(120), 0);
        }
        check.same("count(0), call 512", x.count(0), 511 * 120);
    }
}
