/** The edges of chapter 1 and of the promises 1 to 5: an about() for each sentence that names one. */
public final class LanguageEdgesTest {
    private static final String BORE = "bore a long 1 low 0;";
    private static final String TWO = Texts.TWO;
    private static final String WHEN = Texts.WHEN;
    private static final String BOAT = "boat k weight 1 from west due 0 by p and q; ";

    private final Check check = new Check();

    public static void main(String[] args) {
        LanguageEdgesTest test = new LanguageEdgesTest();
        test.promises1To5();
        test.tokens();
        test.depth();
        test.error1();
        test.error2();
        test.error3();
        test.error4();
        test.error5();
        test.numbering();
        test.sums();
        test.check.end();
    }

    // ---- promises 1 to 5

    private void promises1To5() {
        newObjectIsEmpty();
        newObjectKnowsNobody();
        feedOver2000();
        feedRefusedAtAFullTape();
        feedHighestByteFirst();
        trimOutOfRange();
        trimOfAnEmptyTape();
        trimKeepsTheFirst();
        tapeEmptyBehindTeach();
        teachAnswers();
        teachOfNothing();
        teachOfAFullTape();
        teachAtEveryLimit();
        teachBeginsAnew();
        teachInPlaceOfAll();
        teachLeavesNothingOver();
        errorLeavesAll();
        errorAtWithoutAnError();
        errorAtFromEndToEnd();
    }

    private void newObjectIsEmpty() {
        check.about("1: Creates a tunnel without places, in the minute 0");
        TunnelLeggers x = new TunnelLeggers();
        for (int what = 0; what <= 13; what++) {
            check.same("count(" + what + ")", x.count(what), 0);
        }
        check.same("worst", x.worst(), -1);
        check.same("air", x.air(), 0);
    }

    private void newObjectKnowsNobody() {
        check.about("1: a tunnel without places (and without any other)");
        TunnelLeggers x = new TunnelLeggers();
        check.outOfBounds(x, "place(0, 0)", () -> x.place(0, 0));
        check.outOfBounds(x, "bore(0, 0)", () -> x.bore(0, 0));
        check.outOfBounds(x, "legger(0, 0)", () -> x.legger(0, 0));
        check.outOfBounds(x, "boat(0, 0)", () -> x.boat(0, 0));
        check.outOfBounds(x, "crew(0, 0)", () -> x.crew(0, 0));
        check.outOfBounds(x, "canEnter(0)", () -> x.canEnter(0));
        check.outOfBounds(x, "cap(0)", () -> x.cap(0));
        check.outOfBounds(x, "again(0, 0)", () -> x.again(0, 0));
        check.outOfBounds(x, "until(0)", () -> x.until(0));
        check.same("pass", x.pass(1), 0);
    }

    private void feedOver2000() {
        check.about("2: IllegalStateException if there would be more than 2000");
        TunnelLeggers x = new TunnelLeggers();
        for (int i = 1; i <= 100; i++) {
            check.same("feed", x.feed(0, 0, 0, 0, 0), 20 * i);
        }
        check.refused(x, "feed at 2000", IllegalStateException.class, () -> x.feed(0, 0, 0, 0, 0));
        x.trim(1981);
        check.refused(x, "feed at 1981", IllegalStateException.class, () -> x.feed(0, 0, 0, 0, 0));
        x.trim(1980);
        check.same("feed at 1980", x.feed(0, 0, 0, 0, 0), 2000);
    }

    private void feedRefusedAtAFullTape() {
        check.about("2: a method that throws an exception changes nothing");
        TunnelLeggers x = new TunnelLeggers();
        Check.tape(x, BORE + " ".repeat(1990 - BORE.length()));
        check.refused(x, "feed at 1990", IllegalStateException.class, () -> x.feed(-1, -1, -1, -1, -1));
        check.same("count(13)", x.count(13), 1990);
        check.same("teach", x.teach(), 0);
        check.same("count(2)", x.count(2), 1);
    }

    private void feedHighestByteFirst() {
        check.about("2: the four bytes of each number, the highest one first");
        TunnelLeggers x = new TunnelLeggers();
        x.feed(0x626f7265, 0x20612020, 0x6c6f6e67, 0x20312020, 0x6c6f7720);
        x.feed(0x303b2020, 0x20202020, 0x20202020, 0x20202020, 0x20202020);
        check.same("teach", x.teach(), 0);
        // A first byte above 127 makes the number negative: it is one byte all the same.
        x.feed(0x20202080, 0x20202020, 0x20202020, 0x20202020, 0x20202020);
        check.same("teach", x.teach(), 1);
        check.same("errorAt", x.errorAt(), 3);
        x.feed(0x20202020, 0x20202020, 0x20202020, 0x20202020, 0x202020ff);
        check.same("teach", x.teach(), 1);
        check.same("errorAt", x.errorAt(), 19);
        x.feed(0x80202020, 0x20202020, 0x20202020, 0x20202020, 0x20202020);
        check.same("teach", x.teach(), 1);
        check.same("errorAt", x.errorAt(), 0);
    }

    private void trimOutOfRange() {
        check.about("3: IllegalArgumentException if n is not 0 to the number of bytes of the tape");
        TunnelLeggers x = new TunnelLeggers();
        x.feed(0, 0, 0, 0, 0);
        check.illegal(x, "trim(-1)", () -> x.trim(-1));
        check.illegal(x, "trim(21)", () -> x.trim(21));
        check.illegal(x, "trim(MIN)", () -> x.trim(Integer.MIN_VALUE));
        check.illegal(x, "trim(MAX)", () -> x.trim(Integer.MAX_VALUE));
        check.same("trim(20)", x.trim(20), 20);
        check.same("trim(19)", x.trim(19), 19);
        check.illegal(x, "trim(20) of 19", () -> x.trim(20));
        check.same("trim(0)", x.trim(0), 0);
        check.illegal(x, "trim(1) of 0", () -> x.trim(1));
    }

    private void trimOfAnEmptyTape() {
        check.about("1. The language: the tape is at first empty");
        TunnelLeggers x = new TunnelLeggers();
        check.illegal(x, "trim(1)", () -> x.trim(1));
        check.same("trim(0)", x.trim(0), 0);
        check.same("count(13)", x.count(13), 0);
        check.same("feed", x.feed(0, 0, 0, 0, 0), 20);
    }

    private void trimKeepsTheFirst() {
        check.about("3: shortens the tape to its first bytes");
        TunnelLeggers x = new TunnelLeggers();
        Check.tape(x, BORE + "bore b long 1 low 0;");
        x.trim(20);
        check.same("teach", x.teach(), 0);
        check.same("count(2)", x.count(2), 1);
        Check.tape(x, BORE);
        x.trim(19);
        check.same("teach", x.teach(), 1);
        check.same("errorAt", x.errorAt(), 19);
    }

    private void tapeEmptyBehindTeach() {
        check.about("1. The language: the tape is empty behind teach");
        String[] lists = {BORE, "bore", BORE + BORE, "rest p when 1 = 1;", Texts.bores(6), "bore a long 0 low 0;"};
        for (int error = 0; error <= 5; error++) {
            TunnelLeggers x = new TunnelLeggers();
            Check.tape(x, lists[error]);
            check.same("teach() of " + lists[error], x.teach(), error);
            check.same("count(13) behind error " + error, x.count(13), 0);
            check.illegal(x, "trim(1)", () -> x.trim(1));
            check.same("teach() again", x.teach(), 0);
            check.same("feed", x.feed(0, 0, 0, 0, 0), 20);
        }
    }

    private void teachAnswers() {
        check.about("4: Returns 0, or the error, 1 to 5");
        check.right(BORE);
        check.wrong(1, BORE + "^;");
        check.wrong(2, BORE + "bore ^a long 1 low 0;");
        check.wrong(3, "rest ^p when 1 = 1;");
        check.wrong(4, Texts.bores(5) + "bore ^a long 1 low 0;");
        check.wrong(5, "bore a long ^0 low 0;");
    }

    private void teachOfNothing() {
        check.about("1. The language: list = { line \";\" }, any number of times, also none");
        check.right("");
        check.right(" ");
        check.right("\n \n");
        TunnelLeggers x = Check.taught(Texts.bores(1) + "shaft s at 0 draught 1; " + TWO + BOAT + WHEN + "1 = 2;");
        x.pass(2);
        check.same("teach() of an empty tape", x.teach(), 0);
        for (int what = 1; what <= 13; what++) {
            check.same("count(" + what + ")", x.count(what), 0);
        }
        check.same("count(0)", x.count(0), 2);
        check.same("worst", x.worst(), -1);
        check.outOfBounds(x, "place(0, 0)", () -> x.place(0, 0));
    }

    private void teachOfAFullTape() {
        check.about("1. The language: a row of at most 2000 bytes");
        TunnelLeggers x = new TunnelLeggers();
        Check.tape(x, " ".repeat(1980) + BORE);
        check.same("count(13)", x.count(13), 2000);
        check.same("teach", x.teach(), 0);
        check.same("count(3)", x.count(3), 1);
        Check.tape(x, "bore a long 1 low 0" + " ".repeat(1980) + ";");
        check.same("teach", x.teach(), 0);
        Check.tape(x, " ".repeat(1981) + BORE.substring(0, 19));
        check.same("teach", x.teach(), 1);
        check.same("errorAt", x.errorAt(), 2000);
        check.wrong(1, " ".repeat(1999) + "^;");
    }

    /** 60 places, 4 shafts, 6 leggers, 8 boats and 16 orders, in 400 tokens and 2000 bytes. */
    private void teachAtEveryLimit() {
        check.about("1. The language: all limits at once");
        String lines = Texts.bores(5) + Texts.lines(4, "shaft s", " at 59 draught 30; ")
            + Texts.lines(6, "legger l", " strength 9 lungs 9; ")
            + Texts.lines(8, "boat k", " weight 60 from east due 999 by l0 and l5; ")
            + "whistle east when 1=1; ".repeat(8) + "rest l5 when 1=2; ".repeat(7);
        // 209 tokens and 15 orders of 7: 314; the last order has 8 and 39 times 2.
        String list = lines + "whistle west when -1=1" + "+1".repeat(39);
        TunnelLeggers x = new TunnelLeggers();
        Check.tape(x, list + " ".repeat(2000 - 1 - list.length()) + ";");
        check.same("count(13)", x.count(13), 2000);
        check.same("teach", x.teach(), 0);
        long[] due = {0, 0, 5, 60, 4, 6, 8, 16, 8, 0, 0, 6000, 0, 0};
        for (int what = 0; what < due.length; what++) {
            check.same("count(" + what + ")", x.count(what), due[what]);
        }
        check.same("place(59, 0)", x.place(59, 0), 4);
        check.same("crew(7, 1)", x.crew(7, 1), 5);
        check.same("until(0)", x.until(0), -1);
        for (int i = 0; i < 9; i++) {
            x.pass(111);
        }
        check.same("canEnter(7) by the turn of east", x.canEnter(7), true);
        check.same("pass", x.pass(1), 0);
        check.same("boat(0, 4)", x.boat(0, 4), 59);
        check.wrong(1, list + "+^1;");
    }

    private void teachBeginsAnew() {
        check.about("4: all begins anew, the turn is west; the minute stays");
        String list = "bore a long 2 low 9; " + Texts.leggers(9, 9, 9, 9) + "boat k weight 20 from east due 0 by p and q; "
            + "boat m weight 1 from east due 0 by p and q; whistle east when minute < 1;";
        TunnelLeggers x = Check.taught(list);
        x.pass(1);
        check.same("boat(0, 3)", x.boat(0, 3), 1);
        check.same("boat(0, 5)", x.boat(0, 5), 18);
        check.same("count(1)", x.count(1), 1);
        x.feed(0, 0, 0, 0, 0);
        Check.tape(x, list);
        check.same("teach", x.teach(), 0);
        long[] due = {1, 0, 1, 2, 0, 2, 2, 1, 2, 0, 0, 200, 0, 0};
        for (int what = 0; what < due.length; what++) {
            check.same("count(" + what + ")", x.count(what), due[what]);
        }
        check.same("boat(0, 4)", x.boat(0, 4), -1);
        check.same("boat(0, 5)", x.boat(0, 5), 0);
        check.same("legger(0, 6)", x.legger(0, 6), -1);
        // Out, and on the way back: then both are free at once.
        x.whistle(1);
        x.pass(4);
        check.same("boat(0, 3)", x.boat(0, 3), 2);
        check.same("legger(0, 5) > 0", x.legger(0, 5) > 0, true);
        Check.tape(x, list);
        x.teach();
        check.same("boat(0, 3)", x.boat(0, 3), 0);
        check.same("boat(0, 6)", x.boat(0, 6), -1);
        check.same("legger(0, 5)", x.legger(0, 5), 0);
    }

    /** More often than there are plans that are used by turns, and fuller ones than the ones behind. */
    private void teachInPlaceOfAll() {
        check.about("4: in the place of all that was told before");
        String most = Texts.bores(5) + Texts.lines(4, "shaft s", " at 59 draught 30; ")
            + Texts.lines(6, "legger l", " strength 9 lungs 9; ")
            + Texts.lines(8, "boat k", " weight 60 from east due 999 by l0 and l5; ") + "whistle east when 1 = 1; ".repeat(16);
        String little = "bore a long 1 low 0; shaft s at 0 draught 1; " + TWO + BOAT + WHEN + "minute < 0; ";
        TunnelLeggers x = new TunnelLeggers();
        for (int i = 0; i < 4; i++) {
            Check.tape(x, most);
            check.same("teach() of the most", x.teach(), 0);
        }
        long[] due = {0, 0, 1, 1, 1, 2, 1, 1, 1, 0, 0, 100, 0, 0};
        for (int i = 0; i < 4; i++) {
            Check.tape(x, little);
            check.same("teach() of little", x.teach(), 0);
            for (int what = 0; what < due.length; what++) {
                check.same("count(" + what + ")", x.count(what), due[what]);
            }
        }
        x.pass(1);
        check.same("count(1) by the orders of now", x.count(1), 0);
        check.about("4: as often as it will: 12 lists of 400 tokens, the last order of which says what the turn is");
        String sums = WHEN + "minute < -1" + "+1".repeat(192) + "; whistle east when 1 = 1;";
        for (int i = 0; i < 12; i++) {
            Check.tape(x, sums.replace("<", i % 2 == 0 ? ">" : "="));
            check.same("teach", x.teach(), 0);
            x.pass(1);
            check.same("count(1)", x.count(1), 1);
        }
    }

    private void teachLeavesNothingOver() {
        check.about("4: all begins anew: of a greater list that has been at work nothing is left over");
        for (int boats = 0; boats <= 7; boats++) {
            for (int leggers = boats == 0 ? 0 : 2; leggers <= 5; leggers++) {
                leftOver(boats, leggers);
            }
        }
    }

    /** In the greater list just the boat and the legger that the other one has no more are in the tunnel. */
    private void leftOver(int boats, int leggers) {
        String great = Texts.bores(5).replace("low 0", "low 9") + "shaft s at 0 draught 4; shaft t at 0 draught 4; "
            + "shaft u at 0 draught 4; shaft v at 0 draught 4; " + Texts.lines(6, "legger l", " strength 9 lungs 9; ")
            + Texts.lines(8, "boat k", " weight 60 from west due 99 by l0 and l5; ").replace("k" + boats
                + " weight 60 from west due 99 by l0 and l5", "k" + boats + " weight 60 from west due 0 by l" + leggers
                + " and l" + (leggers == 0 ? 1 : 0))
            + "whistle east when minute > 1; rest l0 when minute > 1; ".repeat(8);
        String small = Texts.places(6) + "shaft s at 5 draught 4; ".repeat(boats % 2)
            + Texts.lines(leggers, "legger l", " strength 9 lungs 8; ")
            + Texts.lines(boats, "boat k", " weight 40 from west due 0 by l1 and l0; ")
            + "whistle west when 1 = 2; ".repeat(boats + leggers);
        TunnelLeggers x = new TunnelLeggers();
        for (int i = 0; i < 2; i++) {
            Check.tape(x, great);
            check.same("teach() of the great list", x.teach(), 0);
            x.pass(1);
        }
        check.same("boat(" + boats + ", 3)", x.boat(boats, 3), 1);
        check.same("legger(" + leggers + ", 6)", x.legger(leggers, 6), 0);
        TunnelLeggers fresh = new TunnelLeggers();
        fresh.pass(2);
        Check.tape(x, small);
        Check.tape(fresh, small);
        check.same("teach() of the small list", x.teach(), fresh.teach());
        for (int i = 0; i < 6; i++) {
            String call = "behind " + i + " minutes of " + boats + " boats and " + leggers + " leggers ";
            check.same(call + "digest", x.digest(), fresh.digest());
            check.sameDouble(call + "mean", x.mean(), fresh.mean());
            check.same(call + "worst", x.worst(), fresh.worst());
            check.same(call + "missed", x.missed(5), fresh.missed(5));
            for (int b = 0; b < boats; b++) {
                check.same(call + "canEnter", x.canEnter(b), fresh.canEnter(b));
                check.same(call + "until", x.until(b), fresh.until(b));
            }
            check.same(call + "pass", x.pass(1), fresh.pass(1));
        }
    }

    private void errorLeavesAll() {
        check.about("4: If it has an error, all stays (but the tape is empty)");
        TunnelLeggers x = Check.taught("bore a long 3 low 9; shaft s at 1 draught 1; " + Texts.leggers(9, 9, 9, 8)
            + "boat k weight 18 from east due 0 by p and q; whistle east when minute < 2; whistle west when minute > 3;");
        x.pass(2);
        long before = x.digest();
        String[] wrong = {BORE + "bore", BORE + BORE, TWO + "rest z when 1 = 1;", Texts.bores(6), "bore a long 13 low 0;"};
        for (int error = 1; error <= 5; error++) {
            Check.tape(x, wrong[error - 1]);
            check.same("teach", x.teach(), error);
            check.same("digest() behind error " + error, x.digest(), before);
        }
        // The orders stay as well.
        check.same("count(1)", x.count(1), 1);
        x.pass(3);
        check.same("count(1) by the second order", x.count(1), 0);
    }

    private void errorAtWithoutAnError() {
        check.about("5: -1 if it had none, or there was none");
        TunnelLeggers x = new TunnelLeggers();
        check.same("errorAt() without teach()", x.errorAt(), -1);
        Check.tape(x, BORE);
        check.same("errorAt() ahead of teach()", x.errorAt(), -1);
        x.teach();
        check.same("errorAt() of none", x.errorAt(), -1);
        Check.tape(x, BORE + "bore");
        x.teach();
        check.same("errorAt", x.errorAt(), 24);
        Check.tape(x, BORE);
        x.pass(1);
        check.same("errorAt() is that of the latest teach()", x.errorAt(), 24);
        x.teach();
        check.same("errorAt() of none", x.errorAt(), -1);
    }

    private void errorAtFromEndToEnd() {
        check.about("1. The language: the position is that of its first byte (from 0; the end of the tape at its length)");
        check.wrong(1, "^;");
        check.wrong(1, "^" + "a".repeat(2000));
        check.wrong(1, "bore a long 1 low 0" + " ".repeat(1981) + "^");
        check.wrong(5, " ".repeat(1979) + "bore a long ^13 low 0;");
        check.wrong(5, "bore a long ^13 low 0;");
    }

    // ---- tokens

    private void tokens() {
        blanksAndLineEnds();
        blanksBetweenTokens();
        longestToken();
        wordOf10Bytes();
        wordsOfLettersAndDigits();
        numberOf6Digits();
        keywordsAreNoNames();
        noOtherByte();
    }

    private void blanksAndLineEnds() {
        check.about("1. The language: blanks (32) and line ends (10) between tokens, at the beginning and at the end");
        check.right(" bore a long 1 low 0;");
        check.right("\nbore a long 1 low 0;");
        check.right(BORE + " ");
        check.right(BORE + "\n");
        check.right("bore\na  \n long\n\n1 low\n0\n; ");
        for (int other : new int[] {0, 9, 11, 12, 13, 31, 33, 127, 128, 160, 255}) {
            check.wrong(1, "bore a^" + (char) other + "long 1 low 0;");
            check.wrong(1, BORE + "^" + (char) other);
        }
    }

    private void blanksBetweenTokens() {
        check.about("1. The language: have to stand between two tokens that would otherwise be read as one");
        check.right("bore a long 1low 0;");
        check.wrong(1, "bore a ^long1 low 0;");
        check.wrong(1, "bore along ^1 low 0;");
        check.wrong(1, "bore a long 1 ^2 low 0;");
        check.right("bore a long 12 low 0;");
        check.wrong(1, WHEN + "1 < ^= 1;");
        check.right(WHEN + "1 <= 1;");
        check.right("whistle west when[1=1]and(1)=1or-1<1;");
        check.wrong(1, WHEN + "1=1 ^andor 1=1;");
    }

    private void longestToken() {
        check.about("1. The language: the longest possible token is always read");
        check.right("bore bore1 long 1 low 0; bore minutes long 1 low 0; bore nott long 1 low 0; bore o long 1 low 0;");
        check.wrong(1, WHEN + "^minutes = 1;");
        check.wrong(1, WHEN + "^not1 = 1;");
        check.wrong(1, WHEN + "1 <=^= 1;");
        check.wrong(1, WHEN + "1 >=^> 1;");
        check.wrong(1, WHEN + "1 =^> 1;");
        check.right(WHEN + "1>=-1 and 1<-1;");
        check.same("1<=1", Check.holds("", "1<=1", 1), true);
        check.same("1>=1", Check.holds("", "1>=1", 1), true);
    }

    private void wordOf10Bytes() {
        check.about("1. The language: a word: at most 10 bytes");
        check.right("bore abcdefghij long 1 low 0;");
        check.right("bore a234567890 long 1 low 0;");
        check.wrong(1, "bore ^abcdefghijk long 1 low 0;");
        check.wrong(1, "bore ^a2345678901 long 1 low 0;");
        check.wrong(1, "bore a long 1 low 0; ^strengthlungs");
        check.wrong(1, "^abcdefghijk");
        check.wrong(1, "bore ^" + "a".repeat(1990));
        // Its first ten bytes are those of a name told ahead.
        check.wrong(1, "legger abcdefghij strength 1 lungs 1; rest ^abcdefghijk when 1 = 1;");
        // All ten bytes count.
        check.right("bore az long 1 low 0; bore a0 long 1 low 0; bore a long 1 low 0; bore aa long 1 low 0; bore za long 1 low 0;");
        check.right("bore abcdefghij long 1 low 0; bore abcdefghik long 1 low 0; bore bbcdefghij long 1 low 0;");
        check.wrong(2, "bore abcdefghij long 1 low 0; bore ^abcdefghij long 1 low 0;");
    }

    private void wordsOfLettersAndDigits() {
        check.about("1. The language: a letter a to z, followed by letters a to z and digits");
        check.right("bore a long 1 low 0; bore z long 1 low 0; bore az09 long 1 low 0; bore z9 long 1 low 0;");
        check.wrong(1, "bore ^0a long 1 low 0;");
        check.wrong(1, "bore ^9 long 1 low 0;");
        // The bytes beside a and z, 0 and 9, and A to Z
        check.wrong(1, "bore ^` long 1 low 0;");
        check.wrong(1, "bore ^{ long 1 low 0;");
        check.wrong(1, "bore ^A long 1 low 0;");
        check.wrong(1, "bore ^Z long 1 low 0;");
        check.wrong(1, "bore a^` long 1 low 0;");
        check.wrong(1, "bore a^{ long 1 low 0;");
        check.wrong(1, "bore a^/ long 1 low 0;");
        check.wrong(1, "bore a^: long 1 low 0;");
        check.wrong(1, "bore a^A long 1 low 0;");
        check.wrong(1, "bore a^_ long 1 low 0;");
    }

    private void numberOf6Digits() {
        check.about("1. The language: a number: 1 to 6 digits");
        check.right("bore a long 1 low 000000; bore b long 000012 low 9;");
        check.wrong(1, "bore a long ^0000001 low 0;");
        check.wrong(1, "bore a long ^1234567 low 0;");
        check.wrong(1, "^" + "0".repeat(2000));
        check.wrong(5, "bore a long ^123456 low 0;");
        check.wrong(5, "bore a long ^999999 low 0;");
        check.wrong(1, "bore a long 1^/ low 0;");
        check.wrong(1, "bore a long 1^: low 0;");
        check.same("999999", Check.holds("", "999999 = 1000 * 1000 - 1", 1), true);
        check.same("0 and 9", Check.holds("", "9 = 10 - 1 and 0 = 1 - 1 and 090 = 89 + 1", 1), true);
    }

    private void keywordsAreNoNames() {
        check.about("1. The language: all other words are names");
        for (String keyword : ("bore long low shaft at draught legger strength lungs boat weight from west east due by and "
            + "whistle rest when minute turn air breath place waits inside capped not or min max").split(" ")) {
            check.wrong(1, "legger ^" + keyword + " strength 1 lungs 1;");
            String almost = keyword.substring(0, keyword.length() - 1) + "0";
            check.right("legger " + almost + " strength 1 lungs 1;");
        }
        check.right("legger list strength 1 lungs 1; legger end strength 1 lungs 1; legger test strength 1 lungs 1;");
    }

    private void noOtherByte() {
        check.about("1. The language: a byte with which no token begins");
        String symbols = "()[];,+-*/<>=";
        for (int c = 0; c < 256; c++) {
            boolean begins = symbols.indexOf(c) >= 0 || c >= 'a' && c <= 'z' || c >= '0' && c <= '9' || c == ' ' || c == '\n';
            if (!begins && c != '^') {
                check.wrong(1, BORE + "^" + (char) c);
                check.wrong(1, WHEN + "1 = 1^" + (char) c + ";");
            }
        }
        check.error(BORE + "^", 1, 20);
    }

    // ---- depth

    private void depth() {
        depthOfEach();
        depthOfFunctions();
        depthMixed();
        depthEnds();
    }

    private void depthOfEach() {
        check.about("1. The language: the depth may be at most 8");
        for (int n : new int[] {0, 1, 7, 8}) {
            check.right(WHEN + "(".repeat(n) + "1" + ")".repeat(n) + " = 1;");
            check.right(WHEN + "1 = " + "(".repeat(n) + "1" + ")".repeat(n) + ";");
            check.right(WHEN + "[".repeat(n) + "1 = 1" + "]".repeat(n) + ";");
            check.right(WHEN + "-".repeat(n) + "1 = " + "-".repeat(n) + "1;");
            check.right(WHEN + "not ".repeat(n) + "1 = 1;");
        }
        check.wrong(1, WHEN + "(".repeat(8) + "^(1" + ")".repeat(9) + " = 1;");
        check.wrong(1, WHEN + "1 = " + "(".repeat(8) + "^(1" + ")".repeat(9) + ";");
        check.wrong(1, WHEN + "[".repeat(8) + "^[1 = 1" + "]".repeat(9) + ";");
        check.wrong(1, WHEN + "-".repeat(8) + "^-1 = 1;");
        check.wrong(1, WHEN + "1 = " + "-".repeat(8) + "^-1;");
        check.wrong(1, WHEN + "not ".repeat(8) + "^not 1 = 1;");
        check.wrong(1, WHEN + "(".repeat(8) + "^" + "(".repeat(380));
    }

    private void depthOfFunctions() {
        check.about("1. The language: 1 greater between a ( and its ), also that of air, min and max");
        check.right(WHEN + "-".repeat(7) + "air(1) = 1;");
        check.wrong(1, WHEN + "-".repeat(8) + "air^(1) = 1;");
        check.right(WHEN + "air(".repeat(8) + "1" + ")".repeat(8) + " = 1;");
        check.wrong(1, WHEN + "air(".repeat(8) + "air^(1" + ")".repeat(9) + " = 1;");
        check.right(WHEN + "-".repeat(7) + "min(1, 1) = 1;");
        check.wrong(1, WHEN + "-".repeat(8) + "min^(1, 1) = 1;");
        check.right(WHEN + "max(1, ".repeat(8) + "1" + ")".repeat(8) + " = 1;");
        check.wrong(1, WHEN + "max(1, ".repeat(8) + "max^(1, 1" + ")".repeat(9) + " = 1;");
        check.right(WHEN + "min(".repeat(8) + "1" + ", 1)".repeat(8) + " = 1;");
        check.wrong(1, WHEN + "min(".repeat(8) + "min^(1, 1)" + ", 1)".repeat(8) + " = 1;");
    }

    private void depthMixed() {
        check.about("1. The language: depth of (, [, - and not, all together");
        check.right(WHEN + "not [not [-(-(1)) = 1]];");
        check.wrong(1, WHEN + "not [not [-(-(^-1)) = 1]];");
        check.wrong(1, WHEN + "not [not [-(-(^(1))) = 1]];");
        check.right(WHEN + "[[[[1 = -(-(1))]]]];");
        check.wrong(1, WHEN + "[[[[1 = -(-(air^(1)))]]]];");
        check.right(WHEN + "not not not not not not not [1 = 1];");
        check.wrong(1, WHEN + "not not not not not not not not ^[1 = 1];");
        check.wrong(1, WHEN + "[[[[[[[[^not 1 = 1]]]]]]]];");
    }

    private void depthEnds() {
        check.about("1. The language: the depth is 0 at the beginning, and greater only as far as its ) or ] or for what it turns");
        String eight = "(".repeat(8) + "1" + ")".repeat(8);
        check.right(WHEN + eight + " + " + eight + " * " + eight + " < " + eight + ";");
        check.right(WHEN + "[".repeat(8) + "1 = 1" + "]".repeat(8) + " and " + "[".repeat(8) + "1 = 1" + "]".repeat(8) + ";");
        check.right(WHEN + "--------1 - --------1 / --------1 = --------1;");
        check.right(WHEN + "not ".repeat(8) + "1 = 1 or " + "not ".repeat(8) + "1 = 1 and " + eight + " = 1;");
        check.right(WHEN + eight + " = 1; " + WHEN + eight + " = 1;");
        check.right(WHEN + "min(" + eight.substring(1, 16) + ", " + eight.substring(1, 16) + ") = 1;");
    }

    // ---- errors

    private void error1() {
        anotherToken();
        noValueBehind();
        noEndOfAValue();
        tokens401();
        endOfTheTape();
        error1First();
    }

    private static String sort(String token) {
        char c = token.charAt(0);
        if (c >= '0' && c <= '9') {
            return "number";
        }
        if (token.equals("west") || token.equals("east")) {
            return "end";
        }
        return token.length() == 1 && c >= 'a' && c <= 'z' ? "name" : token;
    }

    private void anotherToken() {
        check.about("1. The language: error 1, the first token with which the tokens so far are not the beginning of a list");
        String[] lines = {"bore a long 1 low 0 ;", "shaft s at 0 draught 1 ;", "legger r strength 1 lungs 1 ;",
            "boat k weight 1 from west due 0 by p and q ;", "whistle west when", "rest p when"};
        String[] others = ("z 7 east ; ( ) [ ] , + - * / < > = <= >= bore long low shaft at draught legger strength lungs boat "
            + "weight from due by and whistle rest when minute turn air breath place waits inside capped not or min max").split(" ");
        for (String line : lines) {
            String[] tokens = line.split(" ");
            StringBuilder before = new StringBuilder();
            for (String token : tokens) {
                for (String other : others) {
                    boolean begins = before.length() == 0 && "bore shaft legger boat whistle rest".contains(other);
                    if (!begins && !sort(other).equals(sort(token))) {
                        check.wrong(1, TWO + before + "^" + other + " ;");
                    }
                }
                check.wrong(1, TWO + before + (before.length() == 0 ? "^#" : "^"));
                before.append(token).append(' ');
            }
        }
    }

    private void noValueBehind() {
        check.about("1. The language: error 1, behind what a value or a single has to stand");
        String[] openings = {"", "not ", "[", "-", "(", "1 +", "1 -", "1 *", "1 /", "1 <", "1 >", "1 =", "1 <=", "1 >=",
            "1 = 1 and", "1 = 1 or", "air(", "min(", "max(", "min(1,", "1 = 1 +", "1 = 1 *", "1 = max(1, 2 /", "[1 = 1 or"};
        String[] wrong = {";", ")", "]", ",", "+", "*", "/", "<", ">", "=", "<=", ">=", "and", "or", "west", "z", "when", "bore"};
        for (String opening : openings) {
            for (String token : wrong) {
                check.wrong(1, WHEN + opening + " ^" + token + " 1 = 1;");
            }
            check.wrong(1, WHEN + opening + " ^");
        }
        for (String word : new String[] {"inside", "capped", "1 = breath", "1 = place", "1 = waits", "1 = air", "1 = min", "max"}) {
            for (String token : new String[] {";", ")", "]", "7", "-", "[", "not", "minute", ","}) {
                check.wrong(1, WHEN + word + " ^" + token + ";");
            }
        }
        for (String word : new String[] {"inside", "capped", "1 = breath", "1 = place", "1 = air", "1 = min", "max"}) {
            check.wrong(1, WHEN + word + " ^west;");
        }
        check.wrong(1, WHEN + "1 = waits ^z;");
    }

    private void noEndOfAValue() {
        check.about("1. The language: error 1, behind a value, a single or a test");
        String[] values = {"1", "minute", "waits west", "air(1)", "min(1, 2)", "(1)", "-1"};
        for (String value : values) {
            for (String token : new String[] {"(", "[", "7", "z", "west", "not", "inside", "minute", "air", "min", "]", ",", "bore"}) {
                check.wrong(1, WHEN + value + " ^" + token + ";");
                check.wrong(1, WHEN + "1 = " + value + " ^" + token + ";");
            }
            check.wrong(1, WHEN + value + " ^;");
            check.wrong(1, WHEN + value + " ^and 1 = 1;");
            check.wrong(1, WHEN + "1 = " + value + " ^= 1;");
            check.wrong(1, WHEN + "1 = " + value + " ^<= 1;");
            check.wrong(1, WHEN + "1 = " + value + " ^) ;");
            check.wrong(1, WHEN + "1 = (" + value + " ^= 1);");
            check.wrong(1, WHEN + "1 = (" + value + " ^, 1);");
            check.wrong(1, WHEN + "1 = min(" + value + " ^);");
            check.wrong(1, WHEN + "1 = max(1, " + value + " ^, 1);");
            check.wrong(1, WHEN + "[1 = " + value + " ^;");
            check.wrong(1, WHEN + "[1 = " + value + " ^);");
            check.wrong(1, WHEN + "[" + value + " ^];");
        }
    }

    private void tokens401() {
        check.about("1. The language: the token that would be the 401st (the end of the tape not counted)");
        // "whistle west when -1 = 1;" has 8 tokens, and each "+1" has 2.
        String of399 = WHEN + "-1 = 1" + "+1".repeat(196);
        check.right(of399 + ";");
        check.right(of399 + "; \n ");
        check.wrong(1, of399 + "+^1;");
        check.wrong(1, of399 + ";^;");
        check.wrong(1, of399 + "; ^bore a long 1 low 0;");
        check.wrong(1, of399 + "; ^#");
        check.wrong(1, of399 + "; ^abcdefghijk");
        // The end of the tape as the 401st is an end as ever.
        check.wrong(1, of399 + "+^");
        check.wrong(1, of399 + "+ \n^");
        check.wrong(1, "^#" + ";".repeat(500));
    }

    private void endOfTheTape() {
        check.about("1. The language: the end of the tape (at its length)");
        check.wrong(1, "bore^");
        check.wrong(1, "bore a long 1 low 0^");
        check.wrong(1, "bore a long 1 low 0 ^");
        check.wrong(1, "bore a long 1 low 0\n \n^");
        check.wrong(1, WHEN + "[1 = 1^");
        check.wrong(1, WHEN + "1 <^");
        check.wrong(1, WHEN + "-".repeat(8) + "^");
        check.wrong(1, WHEN + "air^");
        check.wrong(1, WHEN + "waits^");
        check.wrong(1, WHEN + "min(1,^");
    }

    private void error1First() {
        check.about("1. The language: only if there is no error 1, keywords, names and numbers are looked at");
        check.wrong(1, "bore a long 13 low 10^");
        check.wrong(1, BORE + BORE + "^#");
        check.wrong(1, "rest z when inside z^");
        check.wrong(1, Texts.bores(6) + "bore ^abcdefghijk long 1 low 0;");
        check.wrong(1, "whistle west when 1 = 1; ".repeat(17) + "^;");
        check.wrong(5, "bore a long ^13 low 10; " + BORE + "rest z when inside z;");
        check.wrong(3, "rest ^z when inside z; bore a long 13 low 10;");
        check.wrong(5, "bore a long 1 low ^10; bore a long 0 low 0;");
    }

    private void error2() {
        check.about("1. The language: error 2, one of the same sort told ahead");
        check.wrong(2, BORE + "bore ^a long 1 low 0;");
        check.wrong(2, Texts.bores(1) + "shaft s at 0 draught 1; shaft ^s at 1 draught 1;");
        check.wrong(2, TWO + "legger ^p strength 1 lungs 1;");
        check.wrong(2, TWO + "legger ^q strength 1 lungs 1;");
        check.wrong(2, TWO + BOAT + "boat ^k weight 1 from west due 0 by p and q;");
        check.right("bore a long 1 low 0; shaft a at 0 draught 1; legger a strength 1 lungs 1; legger b strength 1 lungs 1; "
            + "boat a weight 1 from west due 0 by a and b;");
        check.about("1. The language: of errors at one token the one with the smallest number: 2 before 4");
        check.wrong(2, Texts.bores(5) + "bore ^b4 long 1 low 0;");
        check.wrong(2, Texts.bores(1) + Texts.lines(4, "shaft s", " at 0 draught 1; ") + "shaft ^s0 at 0 draught 1;");
        check.wrong(2, Texts.lines(6, "legger l", " strength 1 lungs 1; ") + "legger ^l5 strength 1 lungs 1;");
        check.wrong(2, TWO + Texts.lines(8, "boat k", " weight 1 from west due 0 by p and q; ")
            + "boat ^k7 weight 1 from west due 0 by p and q;");
    }

    private void error3() {
        check.about("1. The language: error 3, of a legger: behind by and and (of a boat), rest, breath and capped");
        String known = "bore b long 1 low 0; shaft s at 0 draught 1; " + TWO + BOAT;
        for (String other : new String[] {"z", "k", "b", "s", "pp"}) {
            check.wrong(3, known + "boat m weight 1 from west due 0 by ^" + other + " and p;");
            check.wrong(3, known + "boat m weight 1 from west due 0 by p and ^" + other + ";");
            check.wrong(3, known + "rest ^" + other + " when 1 = 1;");
            check.wrong(3, known + WHEN + "breath ^" + other + " = 1;");
            check.wrong(3, known + WHEN + "capped ^" + other + ";");
        }
        check.about("1. The language: error 3, behind inside and place, of a boat");
        for (String other : new String[] {"z", "p", "b", "s", "kk"}) {
            check.wrong(3, known + WHEN + "inside ^" + other + ";");
            check.wrong(3, known + WHEN + "place ^" + other + " = 1;");
        }
        check.about("1. The language: error 3, told ahead");
        check.wrong(3, "boat k weight 1 from west due 0 by ^p and q; " + TWO);
        check.wrong(3, "legger p strength 1 lungs 1; boat k weight 1 from west due 0 by p and ^q; legger q strength 1 lungs 1;");
        check.wrong(3, "rest ^p when 1 = 1; " + TWO);
        check.wrong(3, TWO + "boat m weight 1 from west due 0 by p and ^m;");
        check.wrong(3, TWO + WHEN + "inside ^k; " + BOAT);
        check.wrong(3, TWO + "boat k weight 1 from west due 0 by ^z and z;");
        check.right(TWO + BOAT + "rest q when inside k and place k = breath p and capped q;");
        check.about("4: in the place of all that was told before: names of a list before are not told ahead");
        TunnelLeggers x = Check.taught(TWO + BOAT);
        Check.tape(x, "rest p when 1 = 1;");
        check.same("teach", x.teach(), 3);
        Check.tape(x, TWO + BOAT);
        check.same("teach() of the same names again", x.teach(), 0);
        Check.tape(x, TWO + WHEN + "inside k;");
        check.same("teach", x.teach(), 3);
    }

    private void error4() {
        check.about("1. The language: error 4, the name of the 6th bore");
        check.right(Texts.bores(5));
        check.wrong(4, Texts.bores(5) + "bore ^x long 0 low 0;");
        check.about("1. The language: error 4, of the 5th shaft");
        String shafts = Texts.bores(1) + Texts.lines(4, "shaft s", " at 0 draught 1; ");
        check.right(shafts);
        check.wrong(4, shafts + "shaft ^x at 99 draught 1;");
        check.about("1. The language: error 4, of the 7th legger");
        String leggers = Texts.lines(6, "legger l", " strength 1 lungs 1; ");
        check.right(leggers);
        check.wrong(4, leggers + "legger ^x strength 0 lungs 1;");
        check.about("1. The language: error 4, of the 9th boat");
        String boats = TWO + Texts.lines(8, "boat k", " weight 1 from west due 0 by p and q; ");
        check.right(boats);
        check.wrong(4, boats + "boat ^x weight 0 from west due 0 by p and p;");
        check.about("1. The language: error 4, the whistle or rest of the 17th order (of both together)");
        String whistle = "whistle west when 1 = 1; ";
        String rest = "rest p when 1 = 1; ";
        for (int whistles : new int[] {0, 1, 8, 15, 16}) {
            String orders = TWO + whistle.repeat(whistles) + rest.repeat(16 - whistles);
            check.right(orders);
            check.wrong(4, orders + "^whistle east when inside z;");
            check.wrong(4, orders + "^rest z when 1 = 1;");
        }
    }

    private void error5() {
        range("bore a long # low 0;", 1, 12);
        range("bore a long 1 low #;", 0, 9);
        range(Texts.bores(5) + "shaft s at # draught 1;", 0, 59);
        range(BORE + "shaft s at 0 draught #;", 1, 30);
        range("legger p strength # lungs 1;", 1, 9);
        range("legger p strength 1 lungs #;", 1, 9);
        range(TWO + "boat k weight # from west due 0 by p and q;", 1, 60);
        range(TWO + "boat k weight 1 from west due # by p and q;", 0, 999);
        check.about("1. The language: error 5, the at of a shaft is not that of a place told ahead");
        check.wrong(5, "shaft s at ^0 draught 1; " + BORE);
        check.wrong(5, BORE + "shaft s at ^1 draught 1; bore b long 1 low 0;");
        check.right(BORE + "bore b long 1 low 0; shaft s at 1 draught 1;");
        check.wrong(5, BORE + "bore b long 1 low 0; shaft s at ^2 draught 1;");
        check.wrong(5, Texts.bores(4) + "shaft s at ^48 draught 1;");
        check.right(Texts.bores(4) + "shaft s at 47 draught 1;");
        check.about("1. The language: error 5, the second legger of a boat is the first one (at its name)");
        check.wrong(5, TWO + "boat k weight 1 from west due 0 by p and ^p;");
        check.wrong(5, TWO + "boat k weight 1 from west due 0 by q and ^q;");
        check.right(TWO + "boat k weight 1 from west due 0 by q and p;");
        check.about("1. The language: any other number may be what it will");
        check.right(WHEN + "0 = 999999 and air(999999) > 60 - 999999;");
    }

    /** The number is told as # in the list. */
    private void range(String list, int least, int most) {
        check.about("1. The language: error 5, a number is out of its range, " + least + " to " + most + ": " + list);
        check.right(list.replace("#", "" + least));
        check.right(list.replace("#", "" + most));
        check.right(list.replace("#", "00" + most));
        check.wrong(5, list.replace("#", "^" + (most + 1)));
        check.wrong(5, list.replace("#", "^999999"));
        if (least > 0) {
            check.wrong(5, list.replace("#", "^" + (least - 1)));
            check.wrong(5, list.replace("#", "^000000"));
        }
        check.wrong(1, list.replace("#", "^-1"));
        check.wrong(1, list.replace("#", "^1000000"));
    }

    // ---- numbers of things, and sums

    private void numbering() {
        check.about("1. The language: numbered from 0 in the order in which they are told");
        TunnelLeggers x = Check.taught("bore b long 2 low 3; bore a long 12 low 9; shaft t at 13 draught 1; "
            + "legger q strength 9 lungs 1; legger p strength 1 lungs 9; boat m weight 60 from east due 999 by p and q; "
            + "boat k weight 1 from west due 0 by q and p;");
        check.same("bore(0, 1)", x.bore(0, 1), 3);
        check.same("bore(1, 1)", x.bore(1, 1), 9);
        check.same("legger(0, 0)", x.legger(0, 0), 9);
        check.same("legger(1, 0)", x.legger(1, 0), 1);
        check.same("boat(0, 0)", x.boat(0, 0), 60);
        check.same("boat(1, 0)", x.boat(1, 0), 1);
        check.same("crew(0, 0)", x.crew(0, 0), 1);
        check.same("crew(1, 0)", x.crew(1, 0), 0);
        check.about("1. The language: the places of all bores are numbered through, from 0, the first one at the west end");
        int[] bore = {0, 0, 1, 1, 1, 1, 1, 1, 1, 1, 1, 1, 1, 1};
        for (int p = 0; p < bore.length; p++) {
            check.same("place(" + p + ", 0)", x.place(p, 0), bore[p]);
        }
        check.same("bore(0, 2)", x.bore(0, 2), 0);
        check.same("bore(1, 2)", x.bore(1, 2), 2);
        for (int end = 0; end <= 1; end++) {
            TunnelLeggers y = Check.taught(Texts.places(14) + Texts.leggers(1, 9, 1, 9) + "boat k weight 60 from "
                + (end == 0 ? "west" : "east") + " due 0 by p and q;");
            y.whistle(end);
            y.pass(1);
            check.same("boat(0, 4) from " + end, y.boat(0, 4), end == 0 ? 0 : 13);
        }
    }

    private void holds(String test) {
        check.same(test, Check.holds("", test, 1), true);
    }

    private void fails(String test) {
        check.same(test, Check.holds("", test, 1), false);
    }

    private void sums() {
        String least = "65536 * 32768";
        String most = "(65536 * 32767 + 65535)";
        check.about("1. The language: sums, differences and products of the language wrap around in 32 bits");
        holds(most + " > 0 and " + least + " < 0 and " + most + " - -1 < 0");
        holds(most + " + 1 = " + least);
        holds(least + " - 1 = " + most);
        holds(most + " + " + most + " = -2");
        holds(least + " + " + least + " = 0");
        holds("-(" + least + ") = " + least);
        holds("0 - " + least + " = " + least);
        holds(most + " * 2 = -2");
        holds(most + " * " + most + " = 1");
        holds("65536 * 65536 = 0");
        holds("999999 * 999999 = -(729379 * 1000 + 967)");
        check.about("1. The language: / is cut towards 0");
        holds("7 / 2 = 3 and -7 / 2 = -3 and 7 / -2 = -3 and -7 / -2 = 3");
        holds("1 / 2 = 0 and -1 / 2 = 0 and 1 / -2 = 0 and 6 / 2 = 3 and -6 / 2 = -3");
        holds(most + " / -1 = -" + most + " and " + most + " / 1 = " + most);
        holds(least + " / 2 = -(32768 * 32768) and " + least + " / 1 = " + least);
        check.about("1. The language: / gives 0 with 0 on the right side");
        holds("7 / 0 = 0 and 0 / 0 = 0 and -7 / 0 = 0 and 7 / (1 - 1) = 0");
        holds(most + " / 0 = 0 and " + least + " / 0 = 0 and 7 / (1 / 2) = 0");
        check.about("1. The language: -2147483648 / -1 gives -2147483648");
        holds(least + " / -1 = " + least);
        check.about("1. The language: < > = <= >= at and beside the edge");
        holds("1 < 2 and not 2 < 2 and not 3 < 2");
        holds("not 1 > 2 and not 2 > 2 and 3 > 2");
        holds("not 1 = 2 and 2 = 2 and not 3 = 2");
        holds("1 <= 2 and 2 <= 2 and not 3 <= 2");
        holds("not 1 >= 2 and 2 >= 2 and 3 >= 2");
        holds(least + " < " + most + " and " + most + " > " + least + " and not " + least + " >= " + most);
        for (String test : new String[] {"1 = 2", "2 = 1", "2 < 2", "3 < 2", "2 > 2", "1 > 2", "3 <= 2", "1 >= 2"}) {
            fails(test);
        }
        holds("min(" + least + ", " + most + ") = " + least + " and max(" + least + ", " + most + ") = " + most);
        check.about("1. The language: sum, product and value, from left to right");
        for (String test : new String[] {"1 + 1 = 3", "3 - 1 = 1", "2 * 3 = 5", "6 / 2 = 2", "min(1, 2) = 2", "max(1, 2) = 1",
            "-1 = 1", "air(0) = 1", "(1) = 2", "2 + 2 * 2 = 8", "9 - 3 - 2 = 8", "8 / 4 / 2 = 4", "8 / 4 * 2 = 1"}) {
            fails(test);
        }
        holds("10 - 3 - 2 = 5 and 100 / 10 / 5 = 2 and 7 / 2 * 2 = 6 and 2 + 3 * 4 - 1 = 13 and -2 * 3 + 7 = 1");
        check.about("2. The tunnel: and binds more than or, not more than and");
        holds("1 = 1 or 1 = 1 and 1 = 2");
        holds("1 = 2 and 1 = 2 or 1 = 1");
        fails("[1 = 1 or 1 = 1] and 1 = 2");
        fails("not 1 = 2 and 1 = 2");
        fails("not 1 = 1");
        fails("not not 1 = 2");
        fails("not not not 1 = 1");
        holds("not 1 = 1 or 1 = 1");
        holds("not [1 = 1 and 1 = 2] and not not 1 = 1");
        check.about("1. The language: { \"or\" both } and { \"and\" single }, any number of times, also none");
        holds("1 = 1");
        holds("1 = 2 or 1 = 2 or 1 = 2 or 1 = 1");
        fails("1 = 1 and 1 = 1 and 1 = 1 and 1 = 2");
    }
}
