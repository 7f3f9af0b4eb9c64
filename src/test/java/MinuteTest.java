/** Promises 12 and 18 and chapter 2: how a minute goes, with answers reckoned by hand from the document. */
public final class MinuteTest {
    private final Check check = new Check();

    public static void main(String[] args) {
        MinuteTest test = new MinuteTest();
        test.oneBoatGoesThrough();
        test.fromEast();
        test.severalPlacesInAMinute();
        test.dueAndNoPlaces();
        test.fourPlacesClear();
        test.fewerPlaces();
        test.fromTheOtherEnd();
        test.leggersOfTwoBoats();
        test.breathToEnter();
        test.breathOfTheFree();
        test.badAir();
        test.airByShafts();
        test.noBreathNoPush();
        test.boatAhead();
        test.caps();
        test.capsAgain();
        test.shafts();
        test.orders();
        test.restAsItComesToItsTurn();
        test.sums();
        test.sumsOfTheTunnel();
        test.passRefused();
        test.check.end();
    }

    private void boat(TunnelLeggers x, int boat, int how, int place, int pushed, int outMinute) {
        String call = "in minute " + x.count(0) + " boat(" + boat + ", ";
        check.same(call + "3)", x.boat(boat, 3), how);
        check.same(call + "4)", x.boat(boat, 4), place);
        check.same(call + "5)", x.boat(boat, 5), pushed);
        check.same(call + "6)", x.boat(boat, 6), outMinute);
    }

    private void breath(TunnelLeggers x, int... due) {
        for (int l = 0; l < due.length; l++) {
            check.same("in minute " + x.count(0) + " legger(" + l + ", 2)", x.legger(l, 2), due[l]);
        }
    }

    private void air(TunnelLeggers x, int... due) {
        for (int p = 0; p < due.length; p++) {
            check.same("in minute " + x.count(0) + " place(" + p + ", 1)", x.place(p, 1), due[p]);
        }
    }

    private void oneBoatGoesThrough() {
        TunnelLeggers x = Check.taught("bore a long 3 low 0; " + Texts.leggers(5, 9, 4, 3)
            + "boat k weight 10 from west due 0 by p and q;");
        boat(x, 0, 0, -1, 0, -1);
        check.same("canEnter", x.canEnter(0), true);
        check.same("pass", x.pass(1), 0);
        boat(x, 0, 1, 0, 9, -1);
        air(x, 94, 100, 100);
        breath(x, 90, 30);
        check.same("legger(0, 4)", x.legger(0, 4), 0);
        check.same("canEnter", x.canEnter(0), false);
        // 9 * 94 / 100 = 8: 17, less 10
        check.same("pass", x.pass(1), 0);
        boat(x, 0, 1, 1, 7, -1);
        air(x, 94, 94, 100);
        check.same("pass", x.pass(1), 0);
        boat(x, 0, 1, 2, 5, -1);
        check.same("pass", x.pass(1), 1);
        boat(x, 0, 2, -1, 0, 3);
        air(x, 94, 94, 94);
        check.same("legger(0, 4)", x.legger(0, 4), -1);
        check.same("legger(0, 5)", x.legger(0, 5), 9);
        check.same("legger(1, 5)", x.legger(1, 5), 9);
        check.same("pass", x.pass(8), 0);
        check.same("legger(0, 5)", x.legger(0, 5), 1);
        x.pass(2);
        check.same("legger(0, 5)", x.legger(0, 5), 0);
        check.same("canEnter of one that is out", x.canEnter(0), false);
        check.same("count(0)", x.count(0), 14);
    }

    private void fromEast() {
        TunnelLeggers x = Check.taught("bore a long 2 low 0; bore b long 2 low 0; " + Texts.leggers(5, 9, 4, 3)
            + "boat k weight 10 from east due 0 by p and q;");
        check.same("canEnter", x.canEnter(0), false);
        x.pass(1);
        boat(x, 0, 0, -1, 0, -1);
        x.whistle(1);
        check.same("canEnter", x.canEnter(0), true);
        x.pass(1);
        boat(x, 0, 1, 3, 9, -1);
        x.pass(1);
        boat(x, 0, 1, 2, 7, -1);
        check.same("pass", x.pass(4), 1);
        boat(x, 0, 2, -1, 0, 5);
    }

    private void severalPlacesInAMinute() {
        TunnelLeggers x = Check.taught("bore a long 12 low 0; bore b long 12 low 0; " + Texts.leggers(9, 9, 9, 9)
            + "boat k weight 5 from west due 0 by p and q;");
        x.pass(1);
        boat(x, 0, 1, 3, 3, -1);
        air(x, 100, 100, 100, 94);
        // 18 * 94 / 100 = 16
        x.pass(1);
        boat(x, 0, 1, 6, 4, -1);
        x = Check.taught("bore a long 12 low 0; bore b long 6 low 0; " + Texts.leggers(9, 9, 9, 9)
            + "boat k weight 1 from west due 0 by p and q;");
        check.same("pass", x.pass(1), 1);
        boat(x, 0, 2, -1, 0, 0);
        check.same("count(11)", x.count(11), 1800);
        x = Check.taught("bore a long 12 low 0; bore b long 7 low 0; " + Texts.leggers(9, 9, 9, 9)
            + "boat k weight 1 from west due 0 by p and q;");
        check.same("pass", x.pass(1), 0);
        boat(x, 0, 1, 18, 0, -1);
    }

    private void dueAndNoPlaces() {
        TunnelLeggers x = Check.taught("bore a long 1 low 0; " + Texts.leggers(1, 9, 1, 9)
            + "boat k weight 60 from west due 2 by p and q;");
        x.pass(1);
        check.same("canEnter", x.canEnter(0), false);
        x.pass(1);
        boat(x, 0, 0, -1, 0, -1);
        check.same("canEnter", x.canEnter(0), true);
        x.pass(1);
        boat(x, 0, 1, 0, 2, -1);
        x = Check.taught(Texts.leggers(1, 9, 1, 9) + "boat k weight 1 from west due 0 by p and q;");
        check.same("canEnter", x.canEnter(0), false);
        check.same("pass", x.pass(120), 0);
        boat(x, 0, 0, -1, 0, -1);
    }

    private void fourPlacesClear() {
        String list = "bore a long 9 low 0; " + Texts.leggers(9, 9, 9, 9, 1, 9, 1, 9)
            + "boat k weight WEIGHT from west due 0 by p and q; boat m weight 60 from west due 0 by r and s;";
        TunnelLeggers x = Check.taught(list.replace("WEIGHT", "9"));
        // minute 0: 18, place 2; minute 1: 16, place 3 and 7 left; minute 2: 23, place 5
        x.pass(1);
        boat(x, 0, 1, 2, 0, -1);
        x.pass(1);
        boat(x, 0, 1, 3, 7, -1);
        check.same("canEnter with a boat at place 3", x.canEnter(1), false);
        x.pass(1);
        boat(x, 0, 1, 5, 5, -1);
        boat(x, 1, 0, -1, 0, -1);
        check.same("canEnter with a boat at place 5", x.canEnter(1), true);
        x.pass(1);
        boat(x, 1, 1, 0, 2, -1);
        // minute 0: 18, place 4 and 2 left
        x = Check.taught(list.replace("WEIGHT", "4"));
        x.pass(1);
        boat(x, 0, 1, 4, 2, -1);
        check.same("canEnter with a boat at place 4", x.canEnter(1), true);
        // the same from the east
        x = Check.taught(list.replace("WEIGHT", "9").replace("west", "east") + "whistle east when 1 = 1;");
        x.pass(2);
        boat(x, 0, 1, 5, 7, -1);
        boat(x, 1, 0, -1, 0, -1);
        check.same("canEnter with a boat at the place 3 from the east", x.canEnter(1), false);
        x = Check.taught(list.replace("WEIGHT", "4").replace("west", "east") + "whistle east when 1 = 1;");
        x.pass(1);
        boat(x, 0, 1, 4, 2, -1);
        check.same("canEnter with a boat at the place 4 from the east", x.canEnter(1), true);
    }

    private void fewerPlaces() {
        TunnelLeggers x = Check.taught("bore a long 3 low 0; " + Texts.leggers(9, 9, 9, 9, 1, 9, 1, 9)
            + "boat k weight 9 from west due 0 by p and q; boat m weight 60 from west due 0 by r and s;");
        x.pass(1);
        boat(x, 0, 1, 2, 0, -1);
        check.same("canEnter with a boat at the last of 3 places", x.canEnter(1), false);
        check.same("pass", x.pass(1), 1);
        check.same("canEnter into an empty tunnel", x.canEnter(1), true);
    }

    private void fromTheOtherEnd() {
        TunnelLeggers x = Check.taught("bore a long 12 low 0; " + Texts.leggers(9, 9, 9, 9, 1, 9, 1, 9)
            + "boat k weight 9 from west due 0 by p and q; boat m weight 60 from east due 0 by r and s;");
        x.pass(1);
        boat(x, 0, 1, 2, 0, -1);
        x.whistle(1);
        check.same("canEnter against a boat", x.canEnter(1), false);
        x.pass(1);
        boat(x, 1, 0, -1, 0, -1);
        check.same("the turn stays", x.count(1), 1);
        x.pass(5);
        check.same("boat(0, 3)", x.boat(0, 3), 2);
        x.pass(1);
        boat(x, 1, 1, 11, 2, -1);
    }

    private void leggersOfTwoBoats() {
        TunnelLeggers x = Check.taught("bore a long 12 low 0; " + Texts.leggers(9, 9, 9, 9, 9, 9)
            + "boat k weight 1 from west due 0 by p and q; boat m weight 1 from west due 0 by r and p;");
        check.same("canEnter", x.canEnter(1), true);
        check.same("pass", x.pass(1), 1);
        check.same("boat(1, 3)", x.boat(1, 3), 0);
        check.same("canEnter while one walks", x.canEnter(1), false);
        x.pass(8);
        check.same("legger(0, 5)", x.legger(0, 5), 1);
        check.same("canEnter while one walks", x.canEnter(1), false);
        check.same("pass", x.pass(1), 0);
        check.same("legger(0, 5)", x.legger(0, 5), 0);
        check.same("canEnter", x.canEnter(1), true);
        check.same("pass", x.pass(1), 1);
        check.same("boat(1, 6)", x.boat(1, 6), 10);
        // The second one shares a legger with the first one, which is at place 6 and far from its end.
        x = Check.taught("bore a long 12 low 0; " + Texts.leggers(9, 9, 9, 9, 9, 9)
            + "boat k weight 3 from west due 0 by p and q; boat m weight 1 from west due 0 by r and q;");
        x.pass(1);
        boat(x, 0, 1, 6, 0, -1);
        check.same("canEnter while one is in a boat", x.canEnter(1), false);
        check.same("legger(1, 4)", x.legger(1, 4), 0);
        check.same("legger(2, 4)", x.legger(2, 4), -1);
    }

    private void breathToEnter() {
        String list = "bore a long 1 low 0; legger p strength 1 lungs 9; legger q strength 1 lungs LUNGS; "
            + "boat k weight 60 from west due 0 by CREW;";
        check.same("canEnter with 20", Check.taught(list.replace("LUNGS", "2").replace("CREW", "p and q")).canEnter(0), true);
        check.same("canEnter with 10", Check.taught(list.replace("LUNGS", "1").replace("CREW", "p and q")).canEnter(0), false);
        check.same("canEnter with 10", Check.taught(list.replace("LUNGS", "1").replace("CREW", "q and p")).canEnter(0), false);
    }

    private void breathOfTheFree() {
        // 6, 5, 5, 4, 4, 4, 3, 3, 3, 2, 2, 2 are pushed; the air is 34 and 28 in the end
        TunnelLeggers x = Check.taught("bore a long 1 low 0; " + Texts.leggers(3, 3, 3, 9)
            + "boat k weight 49 from west due 0 by p and q;");
        check.same("pass", x.pass(12), 0);
        breath(x, 27, 87);
        boat(x, 0, 1, 0, 43, -1);
        x.air();
        // Out: already in this minute there are 2 more
        check.same("pass", x.pass(1), 1);
        breath(x, 29, 89);
        x.again(0, 0);
        x.whistle(1);
        check.same("canEnter of those who walk", x.canEnter(0), false);
        x.pass(1);
        breath(x, 30, 90);
    }

    private void airByShafts() {
        // 3 less a minute: 40 in the 19th minute, then 37, 34, 31, 28, 25, 22, 19
        String list = "bore a long 1 low 0; shaft s at 0 draught 3; " + Texts.leggers(1, 9, 1, 9)
            + "boat k weight 60 from west due 0 by p and q;";
        TunnelLeggers x = Check.taught(list);
        x.pass(19);
        air(x, 43);
        int[] due = {90, 89, 88, 87, 85, 83, 81, 78};
        for (int breath : due) {
            breath(x, breath, breath);
            x.pass(1);
        }
        // 1 less a minute: 40 in the 55th minute, then 39
        x = Check.taught(list.replace("draught 3", "draught 5"));
        x.pass(55);
        breath(x, 90, 90);
        x.pass(1);
        breath(x, 89, 89);
        // 2, then 50 times 1, as long as the air was 50 or more
        boat(x, 0, 1, 0, 52, -1);
    }

    private void badAir() {
        TunnelLeggers x = Check.taught("bore a long 1 low 0; " + Texts.leggers(1, 9, 1, 2)
            + "boat k weight 60 from west due 0 by p and q;");
        x.pass(10);
        air(x, 40);
        breath(x, 90, 20);
        int[] air = {34, 28, 22, 16, 10, 4, 0, 0};
        int[] first = {89, 87, 85, 82, 78, 74, 69, 64};
        int[] second = {19, 17, 15, 12, 8, 4, 0, 0};
        for (int i = 0; i < air.length; i++) {
            x.pass(1);
            air(x, air[i]);
            breath(x, first[i], second[i]);
        }
        // 2, then 1 in each minute as long as the air is 50 or more: 94, 88, .. 52
        boat(x, 0, 1, 0, 10, -1);
        x.air();
        x.pass(1);
        breath(x, 65, 1);
        check.same("worst", x.worst(), 0);
    }

    private void noBreathNoPush() {
        TunnelLeggers x = Check.taught("bore a long 1 low 0; bore b long 1 low 9; " + Texts.leggers(1, 9, 9, 2)
            + "boat k weight 60 from west due 0 by p and q;");
        // 10, 9, 8, 8, 7, 7, then 6, then 5 and a move
        x.pass(6);
        boat(x, 0, 1, 0, 49, -1);
        x.pass(1);
        boat(x, 0, 1, 0, 55, -1);
        x.pass(1);
        boat(x, 0, 1, 1, 0, -1);
        air(x, 58, 94);
        x.air();
        // the same at place 1, and out
        x.pass(6);
        boat(x, 0, 1, 1, 49, -1);
        check.same("pass", x.pass(2), 1);
        check.same("boat(0, 6)", x.boat(0, 6), 15);
        // A boat that stays till one of its leggers has no breath: 2, then 1 for each minute with 50 or more
        x = Check.taught("bore a long 1 low 0; " + Texts.leggers(2, 9, 2, 2) + "boat k weight 60 from west due 0 by p and q;");
        x.pass(17);
        breath(x, 69, 0);
        int pushed = x.boat(0, 5);
        x.air();
        x.pass(1);
        check.same("pushed by one alone", x.boat(0, 5), pushed + 2);
        breath(x, 70, 1);
        x.air();
        x.pass(1);
        check.same("pushed by both, one with a breath of 1", x.boat(0, 5), pushed + 2 + 4);
    }

    private void boatAhead() {
        TunnelLeggers x = Check.taught("bore a long 12 low 0; " + Texts.leggers(9, 9, 9, 9, 9, 9, 9, 9)
            + "boat k weight 4 from west due 0 by p and q; boat m weight 2 from west due 0 by r and s;"
            + "whistle west when 1 = 1;");
        x.pass(1);
        boat(x, 0, 1, 4, 2, -1);
        // minute 1: 16 and 2 are 18: place 8, 2 left. The second one: 18, at place 7 with 4 left, and no further
        x.pass(1);
        boat(x, 0, 1, 8, 2, -1);
        boat(x, 1, 1, 7, 0, -1);
        // minute 2: 16 and 2: the first one is out at the fourth push: 9, 10, 11, out; then nothing is ahead of
        // the second one: 18 * 94 / 100 = 16, and 5 pushes of 2 are enough
        check.same("pass", x.pass(1), 2);
        boat(x, 0, 2, -1, 0, 2);
        boat(x, 1, 2, -1, 0, 2);
    }

    private void caps() {
        String list = "bore a long 1 low LOW; bore b long 1 low 9; legger p strength 5 lungs 9; legger q strength 3 lungs 9; "
            + "boat k weight 60 from west due 0 by p and q;";
        TunnelLeggers x = Check.taught(list.replace("LOW", "7"));
        x.pass(1);
        check.same("legger(0, 3) with low 7 and strength 5", x.legger(0, 3), 1);
        check.same("legger(0, 6)", x.legger(0, 6), -1);
        check.same("count(12)", x.count(12), 0);
        x = Check.taught(list.replace("LOW", "8"));
        x.pass(1);
        check.same("legger(0, 3) with low 8 and strength 5", x.legger(0, 3), 0);
        check.same("legger(0, 6)", x.legger(0, 6), 0);
        check.same("legger(1, 3) with low 8 and strength 3", x.legger(1, 3), 1);
        check.same("place(0, 2)", x.place(0, 2), 1);
        check.same("count(12)", x.count(12), 1);
    }

    private void capsAgain() {
        TunnelLeggers x = Check.taught("bore a long 1 low 0; bore b long 1 low 9; bore c long 1 low 9; "
            + Texts.leggers(9, 9, 9, 9, 3, 9) + "boat k weight 18 from west due 0 by p and q; "
            + "boat m weight 1 from east due 0 by r and q;");
        // minute 0: place 1, both caps lie there; the legger r has one still
        x.pass(1);
        boat(x, 0, 1, 1, 0, -1);
        check.same("legger(0, 6)", x.legger(0, 6), 1);
        check.same("legger(1, 6)", x.legger(1, 6), 1);
        check.same("place(1, 2)", x.place(1, 2), 2);
        check.same("legger(2, 6)", x.legger(2, 6), -1);
        // A new cap is lost at the next place, where the second one, who has none, loses none.
        check.same("cap(0)", x.cap(0), 1);
        check.same("place(1, 2)", x.place(1, 2), 1);
        x.pass(2);
        boat(x, 0, 1, 2, 13, -1);
        check.same("legger(0, 6)", x.legger(0, 6), 2);
        check.same("legger(1, 6)", x.legger(1, 6), 1);
        check.same("count(12)", x.count(12), 2);
        check.same("pass", x.pass(1), 1);
        x.pass(10);
        // The other boat comes by: the cap of p stays where it lies, that of q is lost again where it lay.
        x.whistle(1);
        check.same("pass", x.pass(1), 1);
        check.same("legger(0, 6)", x.legger(0, 6), 2);
        check.same("legger(1, 6)", x.legger(1, 6), 1);
        check.same("legger(2, 6)", x.legger(2, 6), -1);
        check.same("boat(1, 3)", x.boat(1, 3), 2);
    }

    private void shafts() {
        TunnelLeggers x = Check.taught("bore a long 7 low 0; shaft s at 3 draught 5; shaft t at 0 draught 2; "
            + Texts.leggers(1, 9, 1, 9) + "boat k weight 60 from west due 0 by p and q; whistle east when minute > 8; "
            + "boat m weight 60 from east due 0 by p and q;");
        // The boat spoils 6 of place 0, the second shaft brings 2.
        x.pass(8);
        air(x, 68, 100, 100, 100, 100, 100, 100);
        // Breath is taken before the shafts bring air: in 38 (of 40 then) and in 34 (of 36).
        x.pass(8);
        air(x, 36);
        breath(x, 88, 88);
        x = Check.taught("bore a long 7 low 0; " + "shaft s at 3 draught 6; shaft t at 3 draught 5; "
            + Texts.leggers(1, 9, 1, 9) + "boat k weight 60 from west due 0 by p and q;");
        x.pass(10);
        // 3 places from both shafts: nothing
        air(x, 40, 100);
        x = Check.taught("bore a long 7 low 0; shaft s at 3 draught 7; shaft t at 6 draught 30; "
            + Texts.leggers(1, 9, 1, 9) + "boat k weight 60 from west due 0 by p and q;");
        // 1 of the first shaft, 30 - 12 = 18 of the second one
        x.pass(1);
        air(x, 100);
        x.pass(1);
        air(x, 100, 100, 100, 100, 100, 100, 100);
        x = Check.taught("bore a long 7 low 0; shaft s at 2 draught 6; shaft t at 0 draught 1; "
            + Texts.leggers(1, 9, 1, 9) + "boat k weight 60 from west due 0 by p and q;");
        // 2 and 1 better
        x.pass(5);
        air(x, 85);
        x = Check.taught("bore a long 1 low 0; shaft s at 0 draught 30; " + Texts.leggers(9, 9, 9, 9)
            + "boat k weight 60 from west due 0 by p and q;");
        x.pass(1);
        air(x, 100);
        boat(x, 0, 1, 0, 18, -1);
    }

    private void orders() {
        String list = "bore a long 1 low 0; " + Texts.leggers(1, 9, 1, 9) + "boat k weight 60 from east due 0 by p and q; ";
        TunnelLeggers x = Check.taught(list + "whistle west when minute = 1; whistle east when minute <= 1; "
            + "whistle west when turn = 1 and minute = 3; whistle east when turn = 1;");
        int[] turn = {1, 0, 0, 0};
        for (int i = 0; i < turn.length; i++) {
            x.pass(1);
            check.same("the turn behind minute " + i, x.count(1), turn[i]);
        }
        // The boat went in in the minute 0, by the turn of that very minute.
        check.same("boat(0, 3)", x.boat(0, 3), 1);
        x.whistle(1);
        x.pass(5);
        check.same("the turn stays", x.count(1), 1);
        // canEnter is by the turn as it is, not by what the orders will say.
        x = Check.taught(list + "whistle east when 1 = 1;");
        check.same("canEnter", x.canEnter(0), false);
        x.whistle(1);
        check.same("canEnter", x.canEnter(0), true);
        // An order of rest says nothing of the turn; it is for one of the crew alone.
        x = Check.taught(list + "rest q when minute < 2; whistle east when 1 = 1;");
        x.whistle(1);
        check.same("canEnter", x.canEnter(0), false);
        x.pass(2);
        check.same("boat(0, 3)", x.boat(0, 3), 0);
        check.same("canEnter", x.canEnter(0), true);
        x = Check.taught(list + "legger r strength 1 lungs 1; rest r when 1 = 1; rest p when 1 = 2;");
        x.whistle(1);
        check.same("canEnter", x.canEnter(0), true);
        x = Check.taught(list + "rest p when 1 = 2; rest p when 1 = 1;");
        x.whistle(1);
        check.same("canEnter", x.canEnter(0), false);
    }

    private void restAsItComesToItsTurn() {
        // As it comes to its turn the boat waits itself, and is at no place.
        String list = "bore a long 12 low 0; " + Texts.leggers(9, 9, 9, 9, 9, 9, 9, 9)
            + "boat k weight 60 from west due 0 by p and q; boat m weight 60 from west due 9 by r and s; "
            + "boat n weight 60 from east due 9 by r and s; ";
        TunnelLeggers x = Check.taught(list + "rest p when waits west = 0; rest p when place k >= 0; rest p when inside k;");
        x.pass(1);
        boat(x, 0, 1, 0, 18, -1);
        // A boat that has gone in waits no more when the next one comes to its turn; seen by who could go in.
        x = Check.taught("bore a long 12 low 0; " + Texts.leggers(9, 9, 9, 9, 9, 9, 9, 9)
            + "boat k weight 4 from west due 0 by p and q; boat m weight 4 from west due 0 by r and s; "
            + "boat n weight 4 from west due 1 by r and s; rest r when waits west < 2;");
        check.same("canEnter(1) with 2 that wait", x.canEnter(1), true);
        x.pass(1);
        boat(x, 0, 1, 4, 2, -1);
        boat(x, 1, 0, -1, 0, -1);
        check.same("canEnter(1) with 2 that wait", x.canEnter(1), true);
        x.pass(1);
        boat(x, 1, 1, 4, 2, -1);
    }

    private void holds(String test) {
        check.same(test, Check.holds("", test, 1), true);
    }

    private void fails(String test) {
        check.same(test, Check.holds("", test, 1), false);
    }

    private void sums() {
        holds("1 = 1");
        fails("1 = 2");
        holds("1 < 2");
        fails("2 < 2");
        holds("3 > 2");
        fails("2 > 2");
        holds("2 <= 2");
        fails("3 <= 2");
        holds("2 >= 2");
        fails("1 >= 2");
        holds("-1 < 0");
        holds("2 + 3 * 4 = 14");
        holds("(2 + 3) * 4 = 20");
        holds("10 - 3 - 2 = 5");
        holds("100 / 10 / 5 = 2");
        holds("7 / 2 * 2 = 6");
        holds("-7 / 2 = -3");
        holds("7 / -2 = -3");
        holds("- - 7 = 7");
        holds("-2 * 3 + 7 = 1");
        holds("7 / 0 = 0");
        holds("-7 / (3 - 3) = 0");
        holds("65536 * 32767 + 65535 > 0");
        holds("65536 * 32767 + 65536 < 0");
        holds("65536 * 65536 = 0");
        holds("-65536 * 32768 - 1 > 0");
        holds("-(65536 * 32768) < 0");
        holds("65536 * 32768 / -1 < 0");
        holds("65536 * 32768 / -1 = 65536 * 32768");
        holds("65536 * 32768 - 1 = 65536 * 32767 + 65535");
        holds("min(3, 2) = 2 and min(2, 3) = 2 and max(3, 2) = 3 and max(-3, -2) = -2");
        fails("min(3, 2) = 3");
        holds("1 = 1 or 1 = 1 and 1 = 2");
        fails("[1 = 1 or 1 = 1] and 1 = 2");
        holds("1 = 2 and 1 = 2 or 1 = 1");
        fails("not 1 = 2 and 1 = 2");
        holds("not [1 = 2 and 1 = 2]");
        fails("not 1 = 1 or 1 = 2");
        holds("not not 1 = 1");
        fails("not not 1 = 2");
        holds("1 = 2 or 1 = 2 or 1 = 1");
        fails("1 = 1 and 1 = 1 and 1 = 2");
        holds("2 = 2 and 5 > 4");
        holds("air(0) = 0 and air(-1) = 0 and turn = 0 and minute = 0 and waits west = 0");
    }

    private void sumsOfTheTunnel() {
        String list = "bore a long 3 low 9; " + Texts.leggers(9, 9, 3, 2) + "legger r strength 1 lungs 4; "
            + "boat k weight 18 from west due 1 by p and q; boat m weight 1 from west due 4 by r and p; "
            + "boat n weight 1 from east due 3 by p and r; boat o weight 1 from east due 2 by p and r; ";
        check.same("before", Check.holds(list, "waits west = 0 and waits east = 0 and place k = -1 and not inside k and capped p "
            + "and breath q = 20 and air(2) = 100 and air(3) = 0 and air(-1) = 0 and turn = 0 and minute = 1 - 1", 1), true);
        check.same("in minute 1", Check.holds(list, "waits west = 1 and minute = 1 and place k = 0 - 1", 2), true);
        // minute 1: 12 pushed at place 0, where the strong one loses the cap
        check.same("in minute 2", Check.holds(list, "waits west = 0 and waits east = 1 and place k = 0 and inside k and not inside m "
            + "and not capped p and capped q and capped r and air(0) = 94 and air(1 - 1) > 93 and air(1) = 100", 3), true);
        check.same("in minute 4", Check.holds(list, "waits west = 1 and waits east = 2 and place k = 1 and place m = -1", 5), true);
        check.same("capped p", Check.holds(list, "capped p", 1), true);
        check.same("capped p", Check.holds(list, "capped p", 4), false);
        check.same("capped q", Check.holds(list, "capped q", 4), true);
        check.same("inside k", Check.holds(list, "inside k", 2), false);
        check.same("inside k", Check.holds(list, "inside k", 3), true);
        check.same("turn", Check.holds(list + "whistle east when minute = 1;", "turn = 1", 3), true);
        // 12 in minute 1; 11 and a move with 5; 12; 11 and a move with 10; 12 and out
        check.same("in minute 6", Check.holds(list, "place k = -1 and not inside k and waits west = 1", 7), true);
        check.same("in minute 5", Check.holds(list, "place k = 2 and inside k", 6), true);
    }

    private void passRefused() {
        TunnelLeggers x = Check.taught("bore a long 1 low 0; " + Texts.leggers(1, 9, 1, 9)
            + "boat k weight 1 from west due 0 by p and q;");
        check.illegal(x, "pass(0)", () -> x.pass(0));
        check.illegal(x, "pass(-1)", () -> x.pass(-1));
        check.illegal(x, "pass(121)", () -> x.pass(121));
        check.illegal(x, "pass(MIN)", () -> x.pass(Integer.MIN_VALUE));
        check.outOfBounds(x, "canEnter(1)", () -> x.canEnter(1));
        check.outOfBounds(x, "canEnter(-1)", () -> x.canEnter(-1));
        check.same("pass(120)", x.pass(120), 1);
        check.same("count(0)", x.count(0), 120);
    }
}
