/** Promises 1 to 9 and the terms they rest on: a test for each sentence that names a boundary. */
public final class TowerEdgesTest {
    private static final int LEAST = Integer.MIN_VALUE;
    private static final int MOST = Integer.MAX_VALUE;
    private static final String SMALLEST = "k0,w9;09";
    private static final String LARGEST = "k0,w1,l2,b3,m9;90817";

    public static void main(String[] args) {
        atFirstThereIsNoTower();
        withoutATowerNoNumberNamesAnything();
        letterCodeTooSmall();
        letterCodeTooLarge();
        letterAbove22();
        letterOutsideIsToldAheadOfFull();
        letterBehindAFullPageThatWasEmptied();
        blankOfAnEmptyPage();
        blankOfAFullPage();
        faultOfAnEmptyPage();
        faultOfAFullPage();
        faultInEachPlaceOfTheLargest();
        faultOfTooFewKeepers();
        faultOfTooManyKeepers();
        faultOfTooManyHoles();
        faultOfEachCode();
        faultChangesNothing();
        towerOfEveryBeginning();
        towerOfTheSmallest();
        towerOfTheLargest();
        towerTooLong();
        towerRefusedKeepsAllThatWas();
        towerThenAllHolesAreVacant();
        keeperUnknown();
        keeperOutside();
        keeperHasNoneOneTwo();
        keeperLikelyOfNone();
        castUnknown();
        castOutside();
        castFails();
        keepsUnknown();
        keepsOutside();
        keepsZeroAtLeast();
        keepsTenAtMost();
        keepsOfAWidowThreeAtLeast();
        keepsOfAMonkTwoMore();
        keepsOfABoyTwiceAsHard();
        holeUnknown();
        holeOutside();
        holeNotLet();
        Due.end();
    }

    // ---- promise 1

    private static void atFirstThereIsNoTower() {
        VowDoves x = new VowDoves();
        for (int what = 0; what <= 9; what++) {
            Due.due("1: count(" + what + ")", x.count(what), 0);
        }
        Due.refused(x, "1: year(0)", () -> x.year(0), VowDoves.STATE);
        Due.refused(x, "1: odds(2, 1)", () -> x.odds(2, 1), VowDoves.STATE);
        Due.refused(x, "1: match(10)", () -> x.match(10), VowDoves.STATE);
        Due.refused(x, "1: centuries(60, 0, 2)", () -> x.centuries(60, 0, 2), VowDoves.STATE);
        Due.refused(x, "1: image()", x::image, VowDoves.STATE);
        Due.refused(x, "1: restore()", x::restore, VowDoves.STATE);
        Due.refused(x, "1: tower()", x::tower, VowDoves.STATE);
    }

    private static void withoutATowerNoNumberNamesAnything() {
        VowDoves x = new VowDoves();
        for (int number : new int[] {LEAST, -1, 0, 1, 4, MOST}) {
            Due.refused(x, "1: keeper(" + number + ", 0)", () -> x.keeper(number, 0), VowDoves.UNKNOWN);
            Due.refused(x, "1: as(" + number + ", 0)", () -> x.as(number, 0), VowDoves.UNKNOWN);
            Due.refused(x, "1: keeps(" + number + ", 0)", () -> x.keeps(number, 0), VowDoves.UNKNOWN);
            Due.refused(x, "1: hole(" + number + ", 0)", () -> x.hole(number, 0), VowDoves.UNKNOWN);
            Due.refused(x, "1: let(" + number + ", 0)", () -> x.let(number, 0), VowDoves.UNKNOWN);
            Due.refused(x, "1: leave(" + number + ")", () -> x.leave(number), VowDoves.UNKNOWN);
            Due.refused(x, "1: see(" + number + ", 0, true)", () -> x.see(number, 0, true), VowDoves.UNKNOWN);
        }
    }

    // ---- promise 2

    private static void letterCodeTooSmall() {
        VowDoves x = new VowDoves();
        for (int code : new int[] {0, -1, -107, LEAST}) {
            Due.refused(x, "2: letter(" + code + ")", () -> x.letter(code), VowDoves.OUTSIDE);
        }
        Due.due("2: letter(1)", x.letter(1), 1);
    }

    private static void letterCodeTooLarge() {
        VowDoves x = new VowDoves();
        // 65536 and 107 more would be a 'k', were it cut to a char.
        for (int code : new int[] {127, 128, 255, 256 + 'k', 65536 + 'k', MOST}) {
            Due.refused(x, "2: letter(" + code + ")", () -> x.letter(code), VowDoves.OUTSIDE);
        }
        Due.due("2: letter(126)", x.letter(126), 1);
    }

    private static VowDoves fullPage() {
        VowDoves x = new VowDoves();
        for (int n = 1; n <= 22; n++) {
            Due.due("2: letter " + n, x.letter('0' + n), n);
        }
        return x;
    }

    private static void letterAbove22() {
        VowDoves x = fullPage();
        Due.refused(x, "2: letter 23", () -> x.letter('k'), VowDoves.FULL);
        Due.refused(x, "2: letter 23 again", () -> x.letter(126), VowDoves.FULL);
        Due.due("2: letters then", x.count(8), 22);
    }

    private static void letterOutsideIsToldAheadOfFull() {
        VowDoves x = fullPage();
        Due.refused(x, "2: letter(0) on a full page", () -> x.letter(0), VowDoves.OUTSIDE);
        Due.refused(x, "2: letter(127) on a full page", () -> x.letter(127), VowDoves.OUTSIDE);
    }

    private static void letterBehindAFullPageThatWasEmptied() {
        VowDoves x = fullPage();
        x.blank();
        for (int n = 1; n <= 22; n++) {
            Due.due("2: letter " + n + " once more", x.letter('x'), n);
        }
        Due.refused(x, "2: letter 23 once more", () -> x.letter('x'), VowDoves.FULL);
    }

    // ---- promise 3

    private static void blankOfAnEmptyPage() {
        VowDoves x = new VowDoves();
        Due.due("3: blank()", x.blank(), 0);
        Due.due("3: blank() again", x.blank(), 0);
        VowDoves read = Due.towerOf(SMALLEST);
        Due.due("3: blank() behind tower()", read.blank(), 0);
    }

    private static void blankOfAFullPage() {
        VowDoves x = fullPage();
        Due.due("3: blank()", x.blank(), 22);
        Due.due("3: letters then", x.count(8), 0);
        Due.due("3: digest then", x.digest(), new VowDoves().digest());
    }

    // ---- promise 4

    private static void fault(String text, int want) {
        VowDoves x = new VowDoves();
        Due.write(x, text);
        Due.due("4: fault() of " + text, x.fault(), want);
    }

    private static void faultOfAnEmptyPage() {
        fault("", 0);
        VowDoves read = Due.towerOf(SMALLEST);
        Due.due("4: fault() behind tower()", read.fault(), 0);
        Due.write(read, "k0,w9");
        // The letters of the tower before must not be read on.
        Due.due("4: fault() of a shorter page", read.fault(), 5);
        Due.due("4: fault() of a blank page", read.blank() - 5 + read.fault(), 0);
    }

    private static void faultOfAFullPage() {
        fault("k0,w1,l2,b3,m9;9081700", 20);
        fault("k0,w1,l2,b3,m9;90817;0", 20);
        fault("k0,w1,l2,b3,m9,k0,w0;0", 14);
        fault("kkkkkkkkkkkkkkkkkkkkkk", 1);
        fault(";;;;;;;;;;;;;;;;;;;;;;", 0);
    }

    private static void faultInEachPlaceOfTheLargest() {
        for (int place = 0; place < LARGEST.length(); place++) {
            fault(LARGEST.substring(0, place) + "~", place);
            fault(LARGEST.substring(0, place) + "~" + LARGEST.substring(place + 1), place);
            fault(LARGEST.substring(0, place), place);
        }
    }

    private static void faultOfTooFewKeepers() {
        fault(";", 0);
        fault("k0;", 2);
        fault("k0;12", 2);
        fault("k0,w9;", 6);
    }

    private static void faultOfTooManyKeepers() {
        fault("k0,w1,l2,b3,", 12);
        fault("k0,w1,l2,b3,m4,", 14);
        fault("k0,w1,l2,b3,m4;", 15);
    }

    private static void faultOfTooManyHoles() {
        fault("k0,w9;01234", 11);
        fault("k0,w9;012345", 11);
        fault("k0,w1,l2,b3,m4;012345", 20);
        // Too few of them are no fault yet: a tower goes on there.
        fault("k0,w9;0", 7);
    }

    private static void faultOfEachCode() {
        for (char code = 1; code <= 126; code++) {
            boolean isDigit = code >= '0' && code <= '9';
            fault("" + code, "kwlbm".indexOf(code) >= 0 ? 1 : 0);
            fault("k" + code, isDigit ? 2 : 1);
            fault("k0" + code, code == ',' ? 3 : 2);
            fault("k0,w9" + code, code == ',' || code == ';' ? 6 : 5);
            fault("k0,w9,l0,b1,m2" + code, code == ';' ? 15 : 14);
            fault("k0,w9;" + code, isDigit ? 7 : 6);
            fault("k0,w9;1234" + code, isDigit ? 11 : 10);
        }
    }

    private static void faultChangesNothing() {
        VowDoves x = new VowDoves();
        Due.write(x, SMALLEST);
        long before = x.digest();
        Due.due("4: fault()", x.fault(), 8);
        Due.due("4: fault() again", x.fault(), 8);
        Due.due("4: digest then", x.digest(), before);
        Due.due("4: tower() then", x.tower(), 2);
    }

    // ---- promise 5

    private static void towerOfEveryBeginning() {
        VowDoves x = new VowDoves();
        for (int n = 0; n < LARGEST.length(); n++) {
            // Behind the ';' are two digits at least from place 17 on.
            if (n < 17) {
                Due.refused(x, "5: tower() of " + LARGEST.substring(0, n), x::tower, VowDoves.STATE);
            } else {
                Due.due("5: tower() of " + LARGEST.substring(0, n), Due.towerOf(LARGEST.substring(0, n)).count(1), n - 15);
            }
            Due.due("5: letter " + (n + 1), x.letter(LARGEST.charAt(n)), n + 1);
        }
        Due.due("5: tower() of " + LARGEST, x.tower(), 5);
    }

    private static void towerOfTheSmallest() {
        VowDoves x = Due.towerOf(SMALLEST);
        Due.due("5: keepers", x.count(0), 2);
        Due.due("5: holes", x.count(1), 2);
        Due.due("5: faith 0", x.keeper(0, 1), 0);
        Due.due("5: faith 9", x.keeper(1, 1), 9);
        Due.due("5: 0 hard", x.hole(0, 0), 0);
        Due.due("5: 9 hard", x.hole(1, 0), 9);
        Due.due("5: the page is empty", x.count(8), 0);
    }

    private static void towerOfTheLargest() {
        VowDoves x = Due.towerOf(LARGEST);
        Due.due("5: keepers", x.count(0), 5);
        Due.due("5: holes", x.count(1), 5);
        Due.due("5: the last one's faith", x.keeper(4, 1), 9);
        Due.due("5: the last vow", x.hole(4, 0), 7);
        Due.due("5: the page is empty", x.count(8), 0);
    }

    private static void towerTooLong() {
        for (String more : new String[] {"0", ";", ",", "k", " ", "00", ";0"}) {
            VowDoves x = new VowDoves();
            Due.write(x, LARGEST + more);
            Due.refused(x, "5: tower() of " + LARGEST + more, x::tower, VowDoves.STATE);
            Due.due("5: its page stays", x.count(8), 20 + more.length());
        }
    }

    private static void towerRefusedKeepsAllThatWas() {
        VowDoves x = Due.towerOf("k5,w5;55");
        x.let(0, 1);
        x.see(0, 5, true);
        x.year(1);
        x.image();
        Due.refused(x, "5: tower() of an empty page", x::tower, VowDoves.STATE);
        Due.write(x, "k5;55");
        Due.refused(x, "5: tower() of k5;55", x::tower, VowDoves.STATE);
        Due.due("5: towers read", x.count(9), 1);
        x.year(0);
        Due.due("5: the image is still there", x.restore(), 1);
        Due.due("5: it is let again", x.hole(0, 1), 1);
    }

    private static void towerThenAllHolesAreVacant() {
        VowDoves x = Due.towerOf("k5,w5,m5;55555");
        for (int hole = 0; hole < 5; hole++) {
            x.let(hole, hole / 2);
        }
        x.year(5);
        x.see(2, 0, false);
        Due.write(x, "k5,w5,m5;55555");
        x.tower();
        for (int hole = 0; hole < 5; hole++) {
            Due.due("5: to whom hole " + hole + " is let", x.hole(hole, 1), VowDoves.NONE);
            Due.due("5: which bird is in " + hole, x.hole(hole, 2), 0);
            Due.due("5: eggs in " + hole, x.hole(hole, 3), 0);
            Due.due("5: it can be let", x.let(hole, hole / 2), hole % 2 + 1);
        }
        for (int keeper = 0; keeper < 3; keeper++) {
            Due.due("5: broken by " + keeper, x.keeper(keeper, 4), 0);
            Due.due("5: faiths of " + keeper, x.keeper(keeper, 5), 1023);
        }
        Due.due("5: years", x.count(6), 0);
    }

    // ---- promise 6

    private static void keeperUnknown() {
        VowDoves two = Due.towerOf(SMALLEST);
        VowDoves five = Due.towerOf(LARGEST);
        for (int what : new int[] {LEAST, -1, 0, 6, 7, MOST}) {
            for (int keeper : new int[] {LEAST, -1, 2, 4, 5, MOST}) {
                Due.refused(two, "6: keeper(" + keeper + ", " + what + ")", () -> two.keeper(keeper, what), VowDoves.UNKNOWN);
            }
            Due.refused(five, "6: keeper(5, " + what + ")", () -> five.keeper(5, what), VowDoves.UNKNOWN);
        }
        Due.due("6: the last of two", two.keeper(1, 0), 1);
        Due.due("6: the last of five", five.keeper(4, 0), 4);
    }

    private static void keeperOutside() {
        VowDoves x = Due.towerOf(SMALLEST);
        for (int what : new int[] {LEAST, -1, 7, 8, MOST}) {
            Due.refused(x, "6: keeper(1, " + what + ")", () -> x.keeper(1, what), VowDoves.OUTSIDE);
        }
        Due.due("6: keeper(1, 0)", x.keeper(1, 0), 1);
        Due.due("6: keeper(1, 6)", x.keeper(1, 6), 0);
    }

    private static void keeperHasNoneOneTwo() {
        VowDoves x = Due.towerOf(LARGEST);
        Due.due("6: none", x.keeper(1, 2), 0);
        x.let(4, 1);
        Due.due("6: the last hole", x.keeper(1, 2), 16);
        x.let(0, 1);
        Due.due("6: and the first", x.keeper(1, 2), 17);
        x.year(17);
        Due.due("6: an egg in each", x.keeper(1, 3), 2);
        x.year(16);
        Due.due("6: the last one again", x.keeper(1, 2), 16);
        Due.due("6: two eggs in it", x.keeper(1, 3), 2);
        Due.due("6: broken once", x.keeper(1, 4), 1);
        x.leave(4);
        Due.due("6: none again", x.keeper(1, 2), 0);
        Due.due("6: no egg", x.keeper(1, 3), 0);
        Due.due("6: still broken once", x.keeper(1, 4), 1);
    }

    private static void keeperLikelyOfNone() {
        VowDoves x = Due.towerOf(SMALLEST);
        x.see(0, 9, true);
        Due.due("6: five can be", x.keeper(0, 5), 992);
        x.see(0, 0, false);
        Due.due("6: no faith can be", x.keeper(0, 5), 0);
        Due.due("6: none is likely", x.keeper(0, 6), VowDoves.NONE);
        Due.due("6: of another one all can be", x.keeper(1, 5), 1023);
        Due.due("6: the least of these", x.keeper(1, 6), 0);
    }

    // ---- promise 7

    private static void castUnknown() {
        VowDoves x = Due.towerOf(SMALLEST);
        for (int kind : new int[] {LEAST, -1, 0, 4, 5, MOST}) {
            for (int keeper : new int[] {LEAST, -1, 2, 5, MOST}) {
                Due.refused(x, "7: as(" + keeper + ", " + kind + ")", () -> x.as(keeper, kind), VowDoves.UNKNOWN);
            }
        }
    }

    private static void castOutside() {
        VowDoves x = Due.towerOf(SMALLEST);
        for (int kind : new int[] {LEAST, -1, 5, 6, MOST}) {
            Due.refused(x, "7: as(1, " + kind + ")", () -> x.as(1, kind), VowDoves.OUTSIDE);
        }
    }

    private static void castFails() {
        VowDoves x = Due.towerOf("m1,w1,k1;00");
        Due.due("7: a monk is a widow", x.as(0, 1), 0);
        Due.due("7: a monk is a monk", x.as(0, 4), 0);
        Due.due("7: a widow is no monk", x.as(1, 4), VowDoves.NONE);
        Due.due("7: a widow is a keeper", x.as(1, 0), 1);
        Due.due("7: a keeper is no widow", x.as(2, 1), VowDoves.NONE);
        Due.due("7: a monk is no lord", x.as(0, 2), VowDoves.NONE);
        Due.due("7: a monk is no boy", x.as(0, 3), VowDoves.NONE);
    }

    // ---- promise 8

    private static void keepsUnknown() {
        VowDoves x = Due.towerOf(SMALLEST);
        for (int hard : new int[] {LEAST, -1, 0, 9, 10, MOST}) {
            for (int keeper : new int[] {LEAST, -1, 2, 5, MOST}) {
                Due.refused(x, "8: keeps(" + keeper + ", " + hard + ")", () -> x.keeps(keeper, hard), VowDoves.UNKNOWN);
            }
        }
    }

    private static void keepsOutside() {
        VowDoves x = Due.towerOf(SMALLEST);
        for (int hard : new int[] {LEAST, -1, 10, 11, MOST}) {
            Due.refused(x, "8: keeps(0, " + hard + ")", () -> x.keeps(0, hard), VowDoves.OUTSIDE);
        }
        Due.due("8: keeps(0, 0)", x.keeps(0, 0), 5);
        Due.due("8: keeps(0, 9)", x.keeps(0, 9), 0);
    }

    private static void keeps(String keeper, int hard, int want) {
        VowDoves x = Due.towerOf("k1," + keeper + ";00");
        Due.due("8: " + keeper + " keeps(1, " + hard + ")", x.keeps(1, hard), want);
    }

    private static void keepsZeroAtLeast() {
        keeps("k0", 4, 1);
        keeps("k0", 5, 0);
        keeps("k0", 6, 0);
        keeps("k0", 9, 0);
        keeps("l4", 8, 1);
        keeps("l4", 9, 0);
        keeps("l3", 9, 0);
    }

    private static void keepsTenAtMost() {
        keeps("k4", 0, 9);
        keeps("k5", 0, 10);
        keeps("k6", 0, 10);
        keeps("k9", 5, 9);
        keeps("k9", 4, 10);
        keeps("k9", 3, 10);
        keeps("l9", 0, 10);
        keeps("w9", 0, 10);
    }

    private static void keepsOfAWidowThreeAtLeast() {
        keeps("w3", 4, 4);
        keeps("w3", 5, 3);
        keeps("w3", 6, 3);
        keeps("w0", 9, 3);
        keeps("w5", 0, 10);
    }

    private static void keepsOfAMonkTwoMore() {
        keeps("m2", 0, 9);
        keeps("m3", 0, 10);
        keeps("m4", 0, 10);
        keeps("m9", 9, 7);
        keeps("m0", 3, 4);
        keeps("m0", 4, 3);
        keeps("m0", 5, 3);
        keeps("m0", 9, 3);
    }

    private static void keepsOfABoyTwiceAsHard() {
        keeps("b0", 0, 5);
        keeps("b0", 2, 1);
        keeps("b0", 3, 0);
        keeps("b9", 2, 10);
        keeps("b9", 6, 2);
        keeps("b9", 7, 0);
        keeps("b9", 9, 0);
        keeps("b5", 5, 0);
        keeps("b6", 5, 1);
    }

    // ---- promise 9

    private static void holeUnknown() {
        VowDoves two = Due.towerOf(SMALLEST);
        VowDoves five = Due.towerOf(LARGEST);
        for (int what : new int[] {LEAST, -1, 0, 4, 5, MOST}) {
            for (int hole : new int[] {LEAST, -1, 2, 4, 5, MOST}) {
                Due.refused(two, "9: hole(" + hole + ", " + what + ")", () -> two.hole(hole, what), VowDoves.UNKNOWN);
            }
            Due.refused(five, "9: hole(5, " + what + ")", () -> five.hole(5, what), VowDoves.UNKNOWN);
        }
        Due.due("9: the last of two", two.hole(1, 0), 9);
        Due.due("9: the last of five", five.hole(4, 0), 7);
    }

    private static void holeOutside() {
        VowDoves x = Due.towerOf(SMALLEST);
        for (int what : new int[] {LEAST, -1, 5, 6, MOST}) {
            Due.refused(x, "9: hole(1, " + what + ")", () -> x.hole(1, what), VowDoves.OUTSIDE);
        }
        Due.due("9: hole(1, 4)", x.hole(1, 4), VowDoves.NONE);
    }

    private static void holeNotLet() {
        VowDoves x = Due.towerOf("k0,w9;95");
        x.let(0, 0);
        Due.due("9: let to 0", x.hole(0, 1), 0);
        Due.due("9: kept in 0 of ten is not NONE", x.hole(0, 4), 0);
        x.year(0);
        Due.due("9: an owl's is let to nobody", x.hole(0, 1), VowDoves.NONE);
        Due.due("9: an owl's vow", x.hole(0, 4), VowDoves.NONE);
        Due.due("9: an owl is in it", x.hole(0, 2), 2);
        x.forgive();
        Due.due("9: no bird is in it", x.hole(0, 2), 0);
        Due.due("9: a vacant one's vow", x.hole(0, 4), VowDoves.NONE);
        x.let(0, 1);
        x.leave(0);
        Due.due("9: one that is left", x.hole(0, 1), VowDoves.NONE);
        Due.due("9: its vow", x.hole(0, 4), VowDoves.NONE);
    }
}
