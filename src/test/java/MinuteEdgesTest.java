/** The edges of chapter 2 and of the promises 12 and 18, reckoned by hand: an about() for each sentence. */
public final class MinuteEdgesTest {
    /** The leggers p and q, who push 18 together, and r and s, who push 2. */
    private static final String FOUR = Texts.leggers(9, 9, 9, 9, 1, 9, 1, 9);
    /** 2 is pushed in good air, 1 from 94 to 50, and 0 in worse: this boat stays where it comes in. */
    private static final String STAYS = Texts.leggers(1, 9, 1, 9) + "boat k weight 60 from west due 0 by p and q; ";

    private final Check check = new Check();

    public static void main(String[] args) {
        MinuteEdgesTest test = new MinuteEdgesTest();
        test.atFirst();
        test.turns();
        test.goingIn();
        test.crews();
        test.pushing();
        test.caps();
        test.airAndBreath();
        test.shafts();
        test.walking();
        test.valuesOfTests();
        test.passing();
        test.check.end();
    }

    private void boat(TunnelLeggers x, int boat, int how, int place, int pushed, int outMinute) {
        String call = "in minute " + x.count(0) + " boat(" + boat + ", ";
        check.same(call + "3)", x.boat(boat, 3), how);
        check.same(call + "4)", x.boat(boat, 4), place);
        check.same(call + "5)", x.boat(boat, 5), pushed);
        check.same(call + "6)", x.boat(boat, 6), outMinute);
    }

    private void breath(TunnelLeggers x, int... due) {
        for (int l = 0; l < due.length; l++) {
            check.same("in minute " + x.count(0) + " legger(" + l + ", 2)", x.legger(l, 2), due[l]);
        }
    }

    private void air(TunnelLeggers x, int... due) {
        for (int p = 0; p < due.length; p++) {
            check.same("in minute " + x.count(0) + " place(" + p + ", 1)", x.place(p, 1), due[p]);
        }
    }

    private static String end(int end) {
        return end == 0 ? "west" : "east";
    }

    // ---- how all begins

    private void atFirst() {
        check.about("2. The tunnel: a place has air, 0 to 100 (100, at first), and caps that lie there");
        TunnelLeggers x = Check.taught(Texts.places(60) + STAYS);
        for (int p = 0; p < 60; p++) {
            check.same("place(" + p + ", 1)", x.place(p, 1), 100);
            check.same("place(" + p + ", 2)", x.place(p, 2), 0);
            check.same("place(" + p + ", 3)", x.place(p, 3), -1);
        }
        check.about("2. The tunnel: a legger has breath, 0 to 10 * lungs (as much at first), and a cap (at first)");
        x = Check.taught(Texts.leggers(1, 1, 9, 9));
        breath(x, 10, 90);
        for (int l = 0; l < 2; l++) {
            check.same("legger(" + l + ", 3)", x.legger(l, 3), 1);
            check.same("legger(" + l + ", 4)", x.legger(l, 4), -1);
            check.same("legger(" + l + ", 5)", x.legger(l, 5), 0);
            check.same("legger(" + l + ", 6)", x.legger(l, 6), -1);
        }
        check.about("2. The tunnel: there is a turn: 0 for west (at first)");
        check.same("count(1)", x.count(1), 0);
        check.about("2. The tunnel: a boat waits, and goes east if it is from west, else west");
        x = Check.taught(FOUR + "boat k weight 1 from west due 0 by p and q; boat m weight 60 from east due 999 by r and s;");
        boat(x, 0, 0, -1, 0, -1);
        boat(x, 1, 0, -1, 0, -1);
        check.same("boat(0, 1)", x.boat(0, 1), 0);
        check.same("boat(1, 1)", x.boat(1, 1), 1);
    }

    // ---- step 1

    private void turns() {
        check.about("2. The tunnel: the turn is that of the first order of whistle, as told, whose test holds now");
        TunnelLeggers x = Check.taught(FOUR + "whistle east when 1 = 2; rest p when 1 = 1; whistle east when minute = 0; "
            + "whistle west when minute <= 1; whistle east when 1 = 1;");
        int[] turn = {1, 0, 1, 1};
        for (int i = 0; i < turn.length; i++) {
            x.pass(1);
            check.same("the turn behind the minute " + i, x.count(1), turn[i]);
        }
        check.about("2. The tunnel: without any it stays");
        x = Check.taught(FOUR + "whistle west when 1 = 2; rest p when 1 = 1;");
        x.pass(1);
        check.same("count(1)", x.count(1), 0);
        x.whistle(1);
        x.pass(1);
        check.same("count(1)", x.count(1), 1);
        x = Check.taught(FOUR);
        x.whistle(1);
        x.pass(2);
        check.same("count(1) without orders", x.count(1), 1);
        check.about("2. The tunnel: in tests turn is the turn, as it was the minute before");
        x = Check.taught(FOUR + "whistle west when turn = 1; whistle east when turn = 0;");
        for (int i = 0; i < 4; i++) {
            x.pass(1);
            check.same("count(1)", x.count(1), 1 - i % 2);
        }
        check.about("2. The tunnel: the sixteenth order is one as the first");
        x = Check.taught(FOUR + "whistle west when 1 = 2; ".repeat(15) + "whistle east when 1 = 1;");
        x.pass(1);
        check.same("count(1)", x.count(1), 1);
    }

    // ---- step 2

    private void goingIn() {
        due();
        theEndWhoseTurnItIs();
        theOtherEnd();
        fourPlaces();
        byNumbers();
        noPlaces();
        havingPushedNothing();
    }

    private void due() {
        check.about("2. The tunnel: boats that wait and whose due is not greater than the minute");
        TunnelLeggers x = Check.taught(Texts.places(1) + STAYS.replace("due 0", "due 3"));
        for (int minute = 0; minute <= 3; minute++) {
            check.same("canEnter in minute " + minute, x.canEnter(0), minute >= 3);
            check.same("boat(0, 3)", x.boat(0, 3), 0);
            x.pass(1);
        }
        boat(x, 0, 1, 0, 2, -1);
        x = Check.taught(Texts.places(1) + STAYS);
        check.same("canEnter of due 0", x.canEnter(0), true);
        x = Check.taught(Texts.places(1) + STAYS.replace("due 0", "due 999"));
        for (int i = 0; i < 8; i++) {
            x.pass(120);
        }
        x.pass(38);
        check.same("canEnter in minute 998", x.canEnter(0), false);
        x.pass(1);
        check.same("canEnter in minute 999", x.canEnter(0), true);
        check.about("12: boats that wait: not one that is in the tunnel or out");
        x = Check.taught(Texts.places(5) + FOUR + "boat k weight 4 from west due 0 by p and q;");
        x.pass(1);
        boat(x, 0, 1, 4, 2, -1);
        check.same("canEnter of one in the tunnel", x.canEnter(0), false);
        x.pass(1);
        check.same("boat(0, 3)", x.boat(0, 3), 2);
        x.pass(12);
        check.same("legger(0, 5)", x.legger(0, 5), 0);
        check.same("canEnter of one that is out", x.canEnter(0), false);
    }

    private void theEndWhoseTurnItIs() {
        check.about("2. The tunnel: if they are from the end whose turn it is");
        for (int from = 0; from <= 1; from++) {
            TunnelLeggers x = Check.taught(Texts.places(7) + STAYS.replace("west", end(from)));
            x.whistle(1 - from);
            check.same("canEnter", x.canEnter(0), false);
            x.pass(1);
            check.same("boat(0, 3)", x.boat(0, 3), 0);
            x.whistle(from);
            check.same("canEnter", x.canEnter(0), true);
            x.pass(1);
            boat(x, 0, 1, from == 0 ? 0 : 6, 2, -1);
        }
        check.about("12: by the turn as it is (whatever the orders will say)");
        TunnelLeggers x = Check.taught(Texts.places(7) + STAYS + "whistle east when 1 = 1;");
        check.same("canEnter", x.canEnter(0), true);
        x.pass(1);
        check.same("boat(0, 3)", x.boat(0, 3), 0);
        check.same("canEnter", x.canEnter(0), false);
    }

    private void theOtherEnd() {
        check.about("2. The tunnel: no boat from the other end is in the tunnel");
        for (int from = 0; from <= 1; from++) {
            // At its place 1 of 2 behind the minute 0, and out in the minute 1, in which the other one still waits.
            TunnelLeggers x = Check.taught(Texts.places(60) + FOUR + "boat k weight 18 from " + end(from)
                + " due 0 by p and q; boat m weight 60 from " + end(1 - from) + " due 0 by r and s;");
            x.whistle(from);
            x.pass(1);
            x.whistle(1 - from);
            check.same("canEnter against a boat far away", x.canEnter(1), false);
            x.pass(1);
            check.same("boat(1, 3)", x.boat(1, 3), 0);
        }
        TunnelLeggers x = Check.taught(Texts.places(2) + FOUR + "boat k weight 16 from west due 0 by p and q; "
            + "boat m weight 60 from east due 0 by r and s; whistle east when minute >= 1;");
        x.pass(1);
        boat(x, 0, 1, 1, 2, -1);
        check.same("pass", x.pass(1), 1);
        boat(x, 1, 0, -1, 0, -1);
        check.same("canEnter", x.canEnter(1), true);
        x.pass(1);
        boat(x, 1, 1, 1, 1, -1);
    }

    private void fourPlaces() {
        check.about("2. The tunnel: no boat is at one of the 4 places nearest to that end");
        int[] weight = {60, 18, 9, 6, 4};
        for (int end = 0; end <= 1; end++) {
            for (int far = 0; far < weight.length; far++) {
                behind(end, 60, far, weight[far], far >= 4);
                behind(end, 5, far, weight[far], far >= 4);
            }
        }
        check.about("2. The tunnel: or at one at all, if there are fewer places");
        for (int end = 0; end <= 1; end++) {
            for (int places = 1; places <= 4; places++) {
                behind(end, places, places - 1, weight[places - 1], false);
            }
        }
    }

    /** Whether a boat can go in behind one that pushed 18 in the minute 0, and came so far from its end. */
    private void behind(int end, int places, int far, int weight, boolean due) {
        TunnelLeggers x = Check.taught(Texts.places(places) + FOUR + "boat k weight " + weight + " from " + end(end)
            + " due 0 by p and q; boat m weight 60 from " + end(end) + " due 0 by r and s;");
        x.whistle(end);
        x.pass(1);
        String call = "in " + places + " places from " + end(end) + ", with a boat " + far + " far, ";
        check.same(call + "boat(0, 4)", x.boat(0, 4), end == 0 ? far : places - 1 - far);
        check.same(call + "boat(1, 3)", x.boat(1, 3), 0);
        check.same(call + "canEnter(1)", x.canEnter(1), due);
        x.pass(1);
        check.same(call + "boat(1, 3)", x.boat(1, 3), due ? 1 : 0);
    }

    private void byNumbers() {
        check.about("2. The tunnel: by numbers");
        TunnelLeggers x = Check.taught(Texts.places(9) + FOUR + "boat k weight 60 from west due 1 by p and q; "
            + "boat m weight 60 from west due 0 by r and s; boat n weight 60 from west due 0 by p and q;");
        check.same("canEnter(1)", x.canEnter(1), true);
        check.about("12: if it was looked at alone");
        check.same("canEnter(2)", x.canEnter(2), true);
        x.pass(1);
        check.same("boat(0, 3)", x.boat(0, 3), 0);
        check.same("boat(1, 3)", x.boat(1, 3), 1);
        check.same("boat(2, 3)", x.boat(2, 3), 0);
    }

    private void noPlaces() {
        check.about("2. The tunnel: in a tunnel without places no boat goes in");
        for (int end = 0; end <= 1; end++) {
            TunnelLeggers x = Check.taught(FOUR + "boat k weight 1 from " + end(end) + " due 0 by p and q;");
            x.whistle(end);
            check.same("canEnter", x.canEnter(0), false);
            check.same("pass", x.pass(120), 0);
            boat(x, 0, 0, -1, 0, -1);
            check.same("until", x.until(0), -1);
            check.same("count(11)", x.count(11), 0);
        }
    }

    private void havingPushedNothing() {
        check.about("2. The tunnel: such a boat comes to the place at its end then, having pushed 0");
        // 18, then 16 of the air 94: 34, and out; behind the walk 16 again, which is not enough.
        TunnelLeggers x = Check.taught(Texts.places(1) + FOUR + "boat k weight 19 from west due 0 by p and q;");
        x.pass(1);
        boat(x, 0, 1, 0, 18, -1);
        check.same("pass", x.pass(1), 1);
        boat(x, 0, 2, -1, 0, 1);
        x.again(0, 0);
        x.whistle(1);
        x.pass(9);
        boat(x, 0, 0, -1, 0, -1);
        check.same("pass", x.pass(1), 0);
        boat(x, 0, 1, 0, 16, -1);
    }

    // ---- step 2, of its leggers

    private void crews() {
        free();
        breathOf20();
        rests();
        restsAsItComesToItsTurn();
    }

    private void free() {
        check.about("2. The tunnel: both its leggers are free: not in a boat");
        for (String crew : new String[] {"p and r", "r and p", "q and r", "r and q"}) {
            TunnelLeggers x = Check.taught(Texts.places(60) + FOUR + "boat k weight 4 from west due 0 by p and q; "
                + "boat m weight 60 from west due 0 by " + crew + "; boat n weight 60 from west due 1 by r and s;");
            x.pass(1);
            boat(x, 0, 1, 4, 2, -1);
            check.same("canEnter(1) by " + crew, x.canEnter(1), false);
            check.same("canEnter(2)", x.canEnter(2), true);
            x.pass(1);
            check.same("boat(1, 3) by " + crew, x.boat(1, 3), 0);
            check.same("boat(2, 3)", x.boat(2, 3), 1);
        }
        check.about("2. The tunnel: both its leggers are free: none walks back");
        for (String crew : new String[] {"p and r", "r and q"}) {
            TunnelLeggers x = Check.taught(Texts.places(1) + FOUR + "boat k weight 1 from west due 0 by p and q; "
                + "boat m weight 60 from west due 0 by " + crew + ";");
            check.same("pass", x.pass(1), 1);
            for (int walk = 9; walk >= 1; walk--) {
                check.same("legger(0, 5)", x.legger(0, 5), walk);
                check.same("canEnter(1) with " + walk + " minutes to walk", x.canEnter(1), false);
                x.pass(1);
                check.same("boat(1, 3)", x.boat(1, 3), 0);
            }
            check.same("legger(0, 5)", x.legger(0, 5), 0);
            check.same("canEnter(1)", x.canEnter(1), true);
            x.pass(1);
            check.same("boat(1, 3)", x.boat(1, 3), 1);
        }
        check.about("2. The tunnel: who is to push a boat that waits is free");
        TunnelLeggers x = Check.taught(Texts.places(9) + FOUR + "boat k weight 1 from east due 0 by p and q; "
            + "boat m weight 60 from west due 0 by q and p;");
        check.same("canEnter(1)", x.canEnter(1), true);
    }

    private void breathOf20() {
        check.about("2. The tunnel: both its leggers have a breath of 20 or more each");
        for (String crew : new String[] {"p and q", "q and p"}) {
            for (int lungs = 1; lungs <= 3; lungs++) {
                TunnelLeggers x = Check.taught(Texts.places(1) + Texts.leggers(1, 9, 1, lungs)
                    + "boat k weight 60 from west due 0 by " + crew + ";");
                check.same("canEnter with " + 10 * lungs, x.canEnter(0), lungs >= 2);
                x.pass(1);
                check.same("boat(0, 3)", x.boat(0, 3), lungs >= 2 ? 1 : 0);
            }
        }
    }

    private void rests() {
        check.about("2. The tunnel: none of them rests: the test of some order of rest for such a one holds");
        String[] orders = {"rest p when 1 = 1;", "rest q when 1 = 1;", "rest p when 1 = 2; rest p when 1 = 1;",
            "rest r when 1 = 1; whistle west when 1 = 1; rest q when not 1 = 2;", "rest p when 1 = 1; rest p when 1 = 2;",
            "whistle west when 1 = 2; ".repeat(15) + "rest q when 1 = 1;"};
        for (String order : orders) {
            TunnelLeggers x = Check.taught(Texts.places(9) + FOUR + "boat k weight 60 from west due 0 by p and q;" + order);
            check.same("canEnter with " + order, x.canEnter(0), false);
            x.pass(3);
            check.same("boat(0, 3) with " + order, x.boat(0, 3), 0);
        }
        orders = new String[] {"", "rest p when 1 = 2;", "rest r when 1 = 1; rest s when 1 = 1;", "whistle west when 1 = 1;"};
        for (String order : orders) {
            TunnelLeggers x = Check.taught(Texts.places(9) + FOUR + "boat k weight 60 from west due 0 by p and q;" + order);
            check.same("canEnter with " + order, x.canEnter(0), true);
            x.pass(1);
            check.same("boat(0, 3) with " + order, x.boat(0, 3), 1);
        }
    }

    private void restsAsItComesToItsTurn() {
        check.about("2. The tunnel: the test of some order of rest holds as it comes to its turn");
        // The first boat has gone in when the second one comes to its turn: then fewer wait, and it is inside.
        String boats = Texts.places(60) + Texts.leggers(9, 9, 9, 9, 9, 9, 9, 9)
            + "boat k weight 1 from west due 1 by p and q; boat m weight 60 from west due 2 by r and s; ";
        TunnelLeggers x = Check.taught(boats + "rest r when inside k;");
        x.pass(2);
        boat(x, 0, 1, 18, 0, -1);
        check.same("canEnter", x.canEnter(1), false);
        x = Check.taught(boats + "rest r when place k < 18;");
        x.pass(2);
        check.same("canEnter", x.canEnter(1), true);
        // By the turn of this very minute, which the whistle has just set.
        x = Check.taught(boats + "whistle west when 1 = 1; rest p when turn = 1;");
        x.whistle(1);
        x.pass(1);
        x.whistle(1);
        check.same("canEnter", x.canEnter(0), false);
        x.pass(1);
        check.same("boat(0, 3)", x.boat(0, 3), 1);
        // By the minute as it is: it is one more only in the end.
        x = Check.taught(boats + "rest p when minute < 2;");
        x.pass(2);
        check.same("boat(0, 3)", x.boat(0, 3), 0);
        x.pass(1);
        check.same("boat(0, 3)", x.boat(0, 3), 1);
    }

    // ---- step 3

    private void pushing() {
        thoseWentInJustNow();
        breathOf1();
        airOfItsPlace();
        asMuchAsItsWeight();
        lastPlace();
        boatAtTheNextPlace();
    }

    private void thoseWentInJustNow() {
        check.about("2. The tunnel: boats that are in the tunnel, those as well that went in just now");
        TunnelLeggers x = Check.taught(Texts.places(2) + STAYS);
        x.pass(1);
        boat(x, 0, 1, 0, 2, -1);
        x = Check.taught(Texts.places(1) + FOUR + "boat k weight 18 from west due 0 by p and q;");
        check.same("pass", x.pass(1), 1);
        boat(x, 0, 2, -1, 0, 0);
    }

    private void breathOf1() {
        check.about("2. The tunnel: of those of its two leggers who have a breath of 1 or more");
        for (String crew : new String[] {"p and q", "q and p"}) {
            TunnelLeggers x = Check.taught(Texts.places(1) + Texts.leggers(2, 9, 3, 2)
                + "boat k weight 60 from west due 0 by " + crew + ";");
            // 5, 4, 4, 4, 3, 3, 3, 2, 2, 2, 2, 1, 1, 1, then 0: the air is 94, 88, .. 10, 4, 0
            x.pass(16);
            boat(x, 0, 1, 0, 37, -1);
            breath(x, 74, 4);
            x.pass(1);
            breath(x, 69, 0);
            boat(x, 0, 1, 0, 37, -1);
            x.air();
            x.pass(1);
            boat(x, 0, 1, 0, 39, -1);
            breath(x, 70, 1);
            x.air();
            x.pass(1);
            boat(x, 0, 1, 0, 44, -1);
            breath(x, 71, 2);
        }
    }

    private void airOfItsPlace() {
        check.about("2. The tunnel: added, * the air of its place / 100 (cut)");
        // 9 * 100, 94, 88, 82 / 100: 9, 8, 7, 7; the sum is cut, not each one (5 and 4: 4 and 3)
        TunnelLeggers x = Check.taught(Texts.places(1) + Texts.leggers(5, 9, 4, 9) + "boat k weight 60 from west due 0 by p and q;");
        int[] pushed = {9, 17, 24, 31};
        for (int due : pushed) {
            x.pass(1);
            boat(x, 0, 1, 0, due, -1);
        }
        // The air 0: nothing
        x = Check.taught(Texts.places(1) + STAYS);
        x.pass(18);
        air(x, 0);
        boat(x, 0, 1, 0, 10, -1);
        x.pass(9);
        air(x, 0);
        boat(x, 0, 1, 0, 10, -1);
    }

    private void asMuchAsItsWeight() {
        check.about("2. The tunnel: as long as it has pushed as much as its weight");
        int[] weight = {17, 18, 19};
        int[] place = {1, 1, 0};
        int[] pushed = {1, 0, 18};
        for (int end = 0; end <= 1; end++) {
            for (int i = 0; i < weight.length; i++) {
                TunnelLeggers x = Check.taught(Texts.places(3) + FOUR + "boat k weight " + weight[i] + " from " + end(end)
                    + " due 0 by p and q;");
                x.whistle(end);
                x.pass(1);
                boat(x, 0, 1, end == 0 ? place[i] : 2 - place[i], pushed[i], -1);
            }
        }
        TunnelLeggers x = Check.taught(Texts.places(19) + FOUR + "boat k weight 1 from west due 0 by p and q;");
        x.pass(1);
        boat(x, 0, 1, 18, 0, -1);
        x = Check.taught(Texts.places(19) + FOUR + "boat k weight 5 from west due 0 by p and q;");
        x.pass(1);
        boat(x, 0, 1, 3, 3, -1);
    }

    private void lastPlace() {
        check.about("2. The tunnel: if it is at the last place before the other end, it is out, and both walk back for 10 minutes");
        for (int end = 0; end <= 1; end++) {
            TunnelLeggers x = Check.taught(Texts.places(18) + FOUR + "boat k weight 1 from " + end(end) + " due 0 by p and q;");
            x.whistle(end);
            check.same("pass", x.pass(1), 1);
            boat(x, 0, 2, -1, 0, 0);
            check.same("legger(0, 4)", x.legger(0, 4), -1);
            check.same("legger(0, 5)", x.legger(0, 5), 9);
            check.same("legger(1, 5)", x.legger(1, 5), 9);
            check.same("legger(2, 5)", x.legger(2, 5), 0);
            x = Check.taught(Texts.places(60) + FOUR + "boat k weight 1 from " + end(end) + " due 0 by p and q;");
            x.whistle(end);
            // 18 places, 16 by the air 94 of the next one, and so on: 18, 34, 50, then 10 of 16 are enough.
            check.same("pass", x.pass(3), 0);
            boat(x, 0, 1, end == 0 ? 50 : 9, 0, -1);
            check.same("pass", x.pass(1), 1);
            boat(x, 0, 2, -1, 0, 3);
        }
        check.about("2. The tunnel: at the last place, but having pushed less than the weight, it stays");
        TunnelLeggers x = Check.taught(Texts.places(1) + FOUR + "boat k weight 19 from west due 0 by p and q;");
        check.same("pass", x.pass(1), 0);
        boat(x, 0, 1, 0, 18, -1);
        check.about("2. The tunnel: one that is out spoils no air, at no place");
        x = Check.taught(Texts.places(1) + FOUR + "boat k weight 18 from west due 0 by p and q;");
        x.pass(1);
        air(x, 100);
    }

    private void boatAtTheNextPlace() {
        check.about("2. The tunnel: if a boat is at the next place, what it has pushed is 0 then");
        // The first one: 4 pushed: 4 places, then 3 by the air 94; the other one 17: 6 places, and 5 left.
        for (int end = 0; end <= 1; end++) {
            TunnelLeggers x = Check.taught(Texts.places(60) + Texts.leggers(2, 9, 2, 9, 9, 9, 8, 9) + "boat k weight 1 from "
                + end(end) + " due 0 by p and q; boat m weight 2 from " + end(end) + " due 0 by r and s;");
            x.whistle(end);
            x.pass(2);
            boat(x, 0, 1, end == 0 ? 7 : 52, 0, -1);
            boat(x, 1, 1, end == 0 ? 6 : 53, 0, -1);
        }
        check.about("2. The tunnel: behind a boat, but having pushed less than the weight, it keeps what it has pushed");
        // The first one: 5 places, then 4 by the air 94; the other one 17: 8 places, and 1 left.
        TunnelLeggers x = Check.taught(Texts.places(60) + Texts.leggers(3, 9, 2, 9, 9, 9, 8, 9)
            + "boat k weight 1 from west due 0 by p and q; boat m weight 2 from west due 0 by r and s;");
        x.pass(2);
        boat(x, 0, 1, 9, 0, -1);
        boat(x, 1, 1, 8, 1, -1);
        check.about("2. The tunnel: by numbers: one with a greater number is still at its place");
        // The first boat is the one behind: the other one moves on only after it.
        x = Check.taught(Texts.places(60) + Texts.leggers(9, 9, 9, 9, 3, 9, 2, 9)
            + "boat k weight 2 from west due 1 by p and q; boat m weight 1 from west due 0 by r and s;");
        x.pass(2);
        boat(x, 0, 1, 4, 0, -1);
        boat(x, 1, 1, 9, 0, -1);
    }

    // ---- caps

    private void caps() {
        lostWhereLow();
        lostAsItGoesIn();
        theirsAgain();
        otherOnesStay();
    }

    private void lostWhereLow() {
        check.about("2. The tunnel: for whom the low of the bore there is more than 12 less the strength, loses it there");
        for (int low = 0; low <= 9; low++) {
            for (int strength = 1; strength <= 9; strength++) {
                TunnelLeggers x = Check.taught("bore a long 1 low 0; bore b long 1 low " + low + "; legger p strength "
                    + strength + " lungs 9; legger q strength " + (10 - strength) + " lungs 9; "
                    + "boat k weight 10 from west due 0 by p and q;");
                x.pass(1);
                boat(x, 0, 1, 1, 0, -1);
                check.same("legger(0, 6) with low " + low + " and strength " + strength, x.legger(0, 6),
                    low + strength > 12 ? 1 : -1);
                check.same("legger(1, 6) with low " + low + " and strength " + (10 - strength), x.legger(1, 6),
                    low + 10 - strength > 12 ? 1 : -1);
            }
        }
    }

    private void lostAsItGoesIn() {
        check.about("2. The tunnel: a boat that comes to a place (in step 2 as well)");
        for (int end = 0; end <= 1; end++) {
            TunnelLeggers x = Check.taught("bore a long 3 low 9; " + Texts.leggers(4, 9, 3, 9) + "boat k weight 60 from "
                + end(end) + " due 0 by p and q;");
            x.whistle(end);
            x.pass(1);
            check.same("legger(0, 6)", x.legger(0, 6), 2 * end);
            check.same("legger(0, 3)", x.legger(0, 3), 0);
            check.same("legger(1, 6)", x.legger(1, 6), -1);
            check.same("place(" + 2 * end + ", 2)", x.place(2 * end, 2), 1);
        }
        check.about("2. The tunnel: who has a cap: one without one loses none at the next place");
        TunnelLeggers x = Check.taught("bore a long 9 low 9; " + FOUR + "boat k weight 6 from west due 0 by p and q;");
        x.pass(1);
        boat(x, 0, 1, 3, 0, -1);
        check.same("legger(0, 6)", x.legger(0, 6), 0);
        check.same("legger(1, 6)", x.legger(1, 6), 0);
        check.same("count(12)", x.count(12), 2);
    }

    private void theirsAgain() {
        check.about("2. The tunnel: caps of its leggers that lie there are theirs again");
        // Who finds a cap again has lost it there, and loses it once more: so it can never be seen elsewhere.
        TunnelLeggers x = Check.taught("bore a long 1 low 0; bore b long 1 low 9; bore c long 1 low 0; " + FOUR
            + "boat k weight 5 from west due 0 by p and q; boat m weight 60 from east due 0 by p and r;");
        check.same("pass", x.pass(1), 1);
        check.same("legger(0, 6)", x.legger(0, 6), 1);
        check.same("place(1, 2)", x.place(1, 2), 2);
        x.again(0, 0);
        x.whistle(1);
        x.pass(9);
        check.same("pass", x.pass(1), 1);
        check.same("legger(0, 6)", x.legger(0, 6), 1);
        check.same("place(1, 2)", x.place(1, 2), 2);
        // Back from the east, they have none to lose at place 1; at place 0 they find them, and lose them again.
        TunnelLeggers y = Check.taught("bore a long 2 low 9; " + FOUR + "boat k weight 9 from west due 0 by p and q;");
        check.same("pass", y.pass(1), 1);
        check.same("legger(0, 6)", y.legger(0, 6), 0);
        y.again(0, 0);
        y.whistle(1);
        y.pass(9);
        check.same("pass", y.pass(1), 1);
        check.same("legger(0, 6)", y.legger(0, 6), 0);
        check.same("count(12)", y.count(12), 2);
    }

    private void otherOnesStay() {
        check.about("2. The tunnel: other ones stay where they are");
        TunnelLeggers x = Check.taught("bore a long 1 low 9; " + FOUR + "boat k weight 1 from west due 0 by p and q; "
            + "boat m weight 1 from west due 1 by r and s; boat n weight 60 from west due 11 by q and r;");
        x.pass(1);
        check.same("place(0, 2)", x.place(0, 2), 2);
        check.same("pass", x.pass(1), 1);
        check.same("legger(0, 6)", x.legger(0, 6), 0);
        check.same("legger(1, 6)", x.legger(1, 6), 0);
        check.same("legger(2, 6)", x.legger(2, 6), -1);
        check.same("place(0, 2)", x.place(0, 2), 2);
        x.pass(10);
        check.same("boat(2, 3)", x.boat(2, 3), 1);
        check.same("legger(0, 6)", x.legger(0, 6), 0);
        check.same("place(0, 2)", x.place(0, 2), 2);
    }

    // ---- step 4

    private void airAndBreath() {
        airAtLeast0();
        airLessThan40();
        aTenthCut();
        breathHeldAt0();
        breathHeldAtMost();
        twoMore();
    }

    private void airAtLeast0() {
        check.about("2. The tunnel: the air of its place is worse by 6 (at least 0)");
        TunnelLeggers x = Check.taught(Texts.places(2) + STAYS);
        for (int minute = 1; minute <= 16; minute++) {
            x.pass(1);
            air(x, 100 - 6 * minute, 100);
        }
        for (int i = 0; i < 3; i++) {
            x.pass(1);
            air(x, 0, 100);
        }
        // Four worse a minute: 4 behind 24 minutes; then 0, not less, before the shaft brings 2.
        x = Check.taught(Texts.places(1) + "shaft s at 0 draught 2; " + STAYS);
        x.pass(24);
        air(x, 4);
        x.pass(1);
        air(x, 2);
        x.pass(1);
        air(x, 2);
        // One worse a minute: 6 behind 94 minutes, which is just 0 before the shaft brings 5; then 0 from 5.
        x = Check.taught(Texts.places(1) + "shaft s at 0 draught 5; " + STAYS);
        x.pass(94);
        air(x, 6);
        x.pass(1);
        air(x, 5);
        x.pass(1);
        air(x, 5);
    }

    private void airLessThan40() {
        check.about("2. The tunnel: then, if it is less than 40, less breath, otherwise 1 more");
        // 40 behind the tenth minute: 1 more, which is held at 90; then 34.
        TunnelLeggers x = Check.taught(Texts.places(1) + STAYS);
        x.pass(10);
        air(x, 40);
        breath(x, 90, 90);
        x.pass(1);
        breath(x, 89, 89);
        // The air in minute t is 95 - t when it is breathed: 40 in the 55th, 39 in the 56th.
        x = Check.taught(Texts.places(1) + "shaft s at 0 draught 5; " + STAYS);
        x.pass(55);
        breath(x, 90, 90);
        x.pass(1);
        breath(x, 89, 89);
        // As the air is worse already: 46 before, 40 then.
        x = Check.taught(Texts.places(1) + STAYS);
        x.pass(11);
        breath(x, 89, 89);
        x.air();
        x.pass(1);
        air(x, 94);
        breath(x, 90, 90);
    }

    private void aTenthCut() {
        check.about("2. The tunnel: as much less breath as 1 and a tenth (cut) of what the air lacks of 40");
        // The air is 95 - t when it is breathed in the minute t.
        TunnelLeggers x = Check.taught(Texts.places(1) + "shaft s at 0 draught 5; " + STAYS);
        x.pass(64);
        breath(x, 81, 81);
        // It lacks 10 in the 65th minute, to 19 in the 74th, and 20 in the 75th.
        int due = 81;
        for (int minute = 65; minute <= 84; minute++) {
            x.pass(1);
            due -= minute < 75 ? 2 : 3;
            breath(x, due, due);
        }
        // 34, 28, 22, 16, 10, 4, 0, 0: it lacks 6, 12, 18, 24, 30, 36, 40, 40.
        x = Check.taught(Texts.places(1) + STAYS);
        x.pass(10);
        int[] breath = {89, 87, 85, 82, 78, 74, 69, 64};
        for (int its : breath) {
            x.pass(1);
            breath(x, its, its);
        }
    }

    private void breathHeldAt0() {
        check.about("2. The tunnel: it is held at 0");
        TunnelLeggers x = Check.taught(Texts.places(1) + Texts.leggers(1, 9, 1, 2) + "boat k weight 60 from west due 0 by p and q;");
        x.pass(10);
        int[] due = {19, 17, 15, 12, 8, 4, 0, 0, 0};
        for (int its : due) {
            x.pass(1);
            check.same("legger(1, 2)", x.legger(1, 2), its);
        }
        x.air();
        x.pass(1);
        check.same("legger(1, 2)", x.legger(1, 2), 1);
        // Held at 0 from 4 and 5 less: by the air 0
        x = Check.taught(Texts.places(1) + Texts.leggers(1, 9, 1, 2) + "boat k weight 60 from west due 0 by p and q;");
        x.pass(16);
        check.same("legger(1, 2)", x.legger(1, 2), 4);
        x.pass(1);
        check.same("legger(1, 2)", x.legger(1, 2), 0);
        breath(x, 69);
        for (int i = 0; i < 14; i++) {
            x.pass(1);
        }
        breath(x, 0, 0);
        x.pass(1);
        breath(x, 0, 0);
    }

    private void breathHeldAtMost() {
        check.about("2. The tunnel: it is held at 10 * lungs");
        TunnelLeggers x = Check.taught(Texts.places(1) + STAYS);
        x.pass(3);
        breath(x, 90, 90);
        x = Check.taught(FOUR);
        x.pass(120);
        breath(x, 90, 90, 90, 90);
        // 87 and 1 and 1 and 1, and no more
        x = Check.taught(Texts.places(1) + STAYS);
        x.pass(12);
        breath(x, 87, 87);
        int[] due = {88, 89, 90, 90};
        for (int its : due) {
            x.air();
            x.pass(1);
            breath(x, its, its);
        }
    }

    private void twoMore() {
        check.about("2. The tunnel: leggers who are in no boat in the tunnel have 2 more breath");
        // 6, 5, 5, 4, 4, 4, 3, 3, 3, 2, 2, 2: 43 of 49; with good air 6 more, and out: 2 more in this very minute.
        TunnelLeggers x = Check.taught(Texts.places(1) + Texts.leggers(3, 9, 3, 9, 1, 9) + "boat k weight 49 from west due 0 by p and q;");
        x.pass(12);
        boat(x, 0, 1, 0, 43, -1);
        breath(x, 87, 87, 90);
        x.air();
        check.same("pass", x.pass(1), 1);
        breath(x, 89, 89, 90);
        // 1 below the most: 1 more, and held
        x.pass(1);
        breath(x, 90, 90, 90);
    }

    // ---- step 5

    private void shafts() {
        ifMoreThan0();
        onBothSides();
        atMost100();
        behindTheBreath();
    }

    private void ifMoreThan0() {
        check.about("2. The tunnel: the draught less twice how many places it is from the shaft, if that is more than 0");
        for (int draught = 1; draught <= 9; draught++) {
            for (int far = 0; far <= 4; far++) {
                TunnelLeggers x = Check.taught(Texts.places(9) + "shaft s at " + far + " draught " + draught + "; " + STAYS);
                x.pass(1);
                check.same("place(0, 1) with draught " + draught + " at " + far, x.place(0, 1),
                    Math.min(100, 94 + Math.max(0, draught - 2 * far)));
            }
        }
        int[] at = {13, 14, 15, 59};
        int[] due = {98, 96, 94, 94};
        for (int i = 0; i < at.length; i++) {
            TunnelLeggers x = Check.taught(Texts.places(60) + "shaft s at " + at[i] + " draught 30; " + STAYS);
            x.pass(1);
            check.same("place(0, 1) with draught 30 at " + at[i], x.place(0, 1), due[i]);
        }
    }

    private void onBothSides() {
        check.about("2. The tunnel: the air of each place, on both sides of the shaft");
        TunnelLeggers x = Check.taught(Texts.places(9) + "shaft s at 0 draught 3; shaft t at 8 draught 3; " + STAYS);
        x.pass(2);
        air(x, 94, 100, 100, 100, 100, 100, 100, 100, 100);
        // Three places in the first minute: the boat spoils 6 of place 3.
        for (int at = 1; at <= 5; at++) {
            x = Check.taught(Texts.places(60) + "shaft s at " + at + " draught 4; " + FOUR
                + "boat k weight 6 from west due 0 by p and q; ");
            x.pass(1);
            int far = Math.abs(at - 3);
            check.same("place(3, 1) with a shaft at " + at, x.place(3, 1), 94 + Math.max(0, 4 - 2 * far));
        }
        x = Check.taught(Texts.places(60) + "shaft s at 59 draught 5; " + STAYS.replace("west", "east"));
        x.whistle(1);
        x.pass(1);
        check.same("place(59, 1)", x.place(59, 1), 99);
        check.about("2. The tunnel: shafts, by numbers: each of all four, also at the same place");
        x = Check.taught(Texts.places(2) + "shaft s at 0 draught 1; shaft t at 0 draught 1; shaft u at 1 draught 3; "
            + "shaft v at 0 draught 1; " + STAYS);
        x.pass(1);
        air(x, 98, 100);
    }

    private void atMost100() {
        check.about("2. The tunnel: the air is better (at most 100)");
        for (int draught = 5; draught <= 7; draught++) {
            TunnelLeggers x = Check.taught(Texts.places(2) + "shaft s at 0 draught " + draught + "; " + STAYS);
            x.pass(1);
            air(x, Math.min(100, 94 + draught), 100);
        }
        TunnelLeggers x = Check.taught(Texts.places(3) + "shaft s at 1 draught 30; shaft t at 1 draught 30; " + STAYS);
        x.pass(1);
        air(x, 100, 100, 100);
        check.same("count(11)", x.count(11), 300);
    }

    private void behindTheBreath() {
        check.about("2. The tunnel: shafts bring air behind the breath");
        // Four worse a minute: from 44 it is 38 as it is breathed, and only then 40 by the shaft.
        TunnelLeggers x = Check.taught(Texts.places(1) + "shaft s at 0 draught 2; " + STAYS);
        x.pass(14);
        air(x, 44);
        breath(x, 90, 90);
        x.pass(1);
        air(x, 40);
        breath(x, 89, 89);
    }

    // ---- step 6

    private void walking() {
        check.about("2. The tunnel: leggers who walk have a minute less to walk (also those who began just now); with 0 they are free");
        TunnelLeggers x = Check.taught(Texts.places(1) + FOUR + "boat k weight 1 from west due 0 by p and q; "
            + "boat m weight 1 from west due 0 by p and q;");
        check.same("pass", x.pass(1), 1);
        for (int due = 9; due >= 0; due--) {
            check.same("legger(0, 5)", x.legger(0, 5), due);
            check.same("legger(1, 5)", x.legger(1, 5), due);
            check.same("legger(2, 5)", x.legger(2, 5), 0);
            check.same("canEnter", x.canEnter(1), due == 0);
            check.same("pass", x.pass(1), due == 0 ? 1 : 0);
        }
        check.same("boat(1, 6)", x.boat(1, 6), 10);
        check.same("legger(0, 5)", x.legger(0, 5), 9);
        x.pass(20);
        check.same("legger(0, 5)", x.legger(0, 5), 0);
        check.about("2. The tunnel: the minute is 1 greater");
        check.same("count(0)", x.count(0), 31);
        x.pass(1);
        check.same("count(0)", x.count(0), 32);
        check.about("10: the minute in which it came out, which is 1 less then");
        check.same("boat(0, 6)", x.boat(0, 6), 0);
    }

    // ---- values

    private void holds(String list, String test, int minutes) {
        check.same("in the minute " + (minutes - 1) + ": " + test, Check.holds(list, test, minutes), true);
    }

    private void valuesOfTests() {
        check.about("2. The tunnel: air that of the place with the number of the sum (0, if there is none)");
        holds("", "air(0) = 0 and air(-1) = 0 and air(1) = 0", 1);
        holds(Texts.places(1), "air(0) = 100 and air(1) = 0 and air(-1) = 0", 1);
        holds(Texts.places(60), "air(59) = 100 and air(60) = 0 and air(30 + 29) = 100 and air(999999) = 0", 1);
        holds(Texts.places(60), "air(65536 * 32768) = 0 and air(65536 * 32768 - 1) = 0 and air(65536 * 65536) = 100", 1);
        holds(Texts.places(1) + STAYS, "air(0) = 94 and air(air(0) - 94) = 94", 2);
        TunnelLeggers x = Check.taught(Texts.places(60));
        Check.tape(x, Texts.places(2) + "whistle east when air(2) = 0 and air(1) = 100;");
        check.same("teach() of fewer places than before", x.teach(), 0);
        x.pass(1);
        check.same("count(1)", x.count(1), 1);
        check.about("2. The tunnel: place that of a boat (-1, if it waits or is out)");
        String goes = Texts.places(2) + FOUR + "boat k weight 18 from west due 1 by p and q; ";
        // In at 1, out at 3: 18, 16, and 15 more
        holds(goes, "place k = -1", 2);
        holds(goes, "place k = 1", 3);
        holds(goes, "place k = 1", 4);
        holds(goes, "place k = -1", 5);
        holds(Texts.places(2) + STAYS, "place k = 0", 2);
        check.about("2. The tunnel: inside holds, if the boat is in the tunnel");
        holds(goes, "not inside k", 2);
        holds(goes, "inside k", 3);
        holds(goes, "inside k", 4);
        holds(goes, "not inside k", 5);
        check.about("2. The tunnel: waits how many boats from that end wait whose due is not greater than the minute");
        String boats = FOUR + "boat k weight 1 from west due 1 by p and q; boat m weight 1 from west due 2 by p and q; "
            + "boat n weight 1 from east due 2 by p and q; ";
        holds(boats, "waits west = 0 and waits east = 0", 1);
        holds(boats, "waits west = 1 and waits east = 0", 2);
        holds(boats, "waits west = 2 and waits east = 1", 3);
        holds(Texts.places(9) + boats.replace("weight 1 ", "weight 60 "), "waits west = 1 and waits east = 1", 3);
        waitsOfOneSentBack();
        holds(goes, "waits west = 0", 3);
        holds(goes, "waits west = 0", 5);
        holds("", "waits west = 0 and waits east = 0", 1);
        check.about("2. The tunnel: breath that of a legger");
        holds(Texts.leggers(9, 1, 1, 9), "breath p = 10 and breath q = 90", 1);
        holds(Texts.places(1) + STAYS, "breath p = 89", 12);
        check.about("2. The tunnel: capped, if the legger has a cap");
        String low = "bore a long 1 low 9; " + Texts.leggers(4, 9, 3, 9) + "boat k weight 60 from west due 0 by p and q; ";
        holds(low, "capped p and capped q", 1);
        holds(low, "not capped p and capped q", 2);
        holds(low, "not [capped p or not capped q]", 2);
        check.about("2. The tunnel: minute is the minute, turn the turn");
        holds("", "minute = 0 and turn = 0", 1);
        holds("", "minute = 119", 120);
        holds("whistle east when minute = 1; ", "turn = 0", 2 - 1);
        holds("whistle east when minute = 1; ", "turn = 1", 3);
    }

    private void waitsOfOneSentBack() {
        TunnelLeggers y = Check.taught(Texts.places(1) + FOUR + "boat k weight 1 from west due 0 by p and q; "
            + "whistle east when waits east = 1 and waits west = 0;");
        y.pass(1);
        y.again(0, 2);
        y.pass(1);
        check.same("count(1) ahead of the due of one sent back", y.count(1), 0);
        y.pass(1);
        check.same("count(1) at the due of one sent back, from east then", y.count(1), 1);
    }

    // ---- promise 18

    private void passing() {
        check.about("18: IllegalArgumentException if minutes is not 1 to 120");
        TunnelLeggers x = Check.taught(Texts.places(1) + FOUR + "boat k weight 1 from west due 0 by p and q; "
            + "boat m weight 1 from west due 119 by r and s;");
        for (int minutes : new int[] {0, -1, 121, 1000, Integer.MIN_VALUE, Integer.MAX_VALUE}) {
            check.illegal(x, "pass(" + minutes + ")", () -> x.pass(minutes));
        }
        check.same("count(0)", x.count(0), 0);
        check.about("18: Returns how many boats come out");
        check.same("pass(120)", x.pass(120), 2);
        check.same("count(0)", x.count(0), 120);
        check.same("boat(1, 6)", x.boat(1, 6), 119);
        check.same("pass(1)", x.pass(1), 0);
        check.same("count(0)", x.count(0), 121);
        x.again(1, 0);
        x.whistle(1);
        check.same("pass() of one that was out before", x.pass(20), 1);
        check.same("count(10)", x.count(10), 2);
    }
}
