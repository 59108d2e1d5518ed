import java.math.BigInteger;

/** Promises 16 to 22 and the terms they rest on: a test for each sentence that names a boundary. */
public final class WholeEdgesTest {
    private static final int LEAST = Integer.MIN_VALUE;
    private static final int MOST = Integer.MAX_VALUE;

    public static void main(String[] args) {
        seeUnknown();
        seeOutside();
        seeEightAtMost();
        seeRefusalsInTheirOrder();
        seenFaithsAtTheEdges();
        seenLikelyOfLikeOnesTheLeast();
        seenEightOfOne();
        forgetNothing();
        forgetWithoutATower();
        forgetEight();
        centuriesYearsOutside();
        centuriesSeedOutside();
        centuriesWhatOutside();
        centuriesWithoutATower();
        centuriesOfNothingLet();
        centuriesNeverAndAlways();
        centuriesDrawAsLargeAsTheYears();
        centuriesSeedWraps();
        centuriesOfFiveHoles();
        centuriesOfALord();
        centuriesBehindYear99();
        imageWithoutATower();
        imageOfYear0AndYear99();
        imageTheLatest();
        imageKeepsEachOfItsParts();
        restoreWhenNoneWasKept();
        restoreAnotherTowerSince();
        restoreWhatAnImageDoesNotKeep();
        refusalsLeaveTheImage();
        countOutside();
        countOfNothingAndOfMost();
        countTowersRead();
        digestOfAnEmptyObject();
        digestWraps();
        digestOfAFullPage();
        digestChangesNothing();
        Due.end();
    }

    // ---- promise 16

    private static void seeUnknown() {
        VowDoves x = Due.towerOf("k5,w5,l5;55");
        for (int keeper : new int[] {LEAST, -1, 3, 4, 5, MOST}) {
            Due.refused(x, "16: see(" + keeper + ", 5, true)", () -> x.see(keeper, 5, true), VowDoves.UNKNOWN);
        }
        Due.due("16: the last one", x.see(2, 5, true), 1);
    }

    private static void seeOutside() {
        VowDoves x = Due.towerOf("k5,w5;55");
        for (int hard : new int[] {LEAST, -1, 10, 11, MOST}) {
            Due.refused(x, "16: see(0, " + hard + ", true)", () -> x.see(0, hard, true), VowDoves.OUTSIDE);
            Due.refused(x, "16: see(0, " + hard + ", false)", () -> x.see(0, hard, false), VowDoves.OUTSIDE);
        }
        Due.due("16: see(0, 0, true)", x.see(0, 0, true), 1);
        Due.due("16: see(0, 9, false)", x.see(0, 9, false), 2);
    }

    private static VowDoves seenEight() {
        VowDoves x = Due.towerOf("k5,w5;55");
        for (int n = 1; n <= 8; n++) {
            Due.due("16: see " + n, x.see(n % 2, n, true), n);
        }
        return x;
    }

    private static void seeEightAtMost() {
        VowDoves x = seenEight();
        Due.refused(x, "16: of keeper 0", () -> x.see(0, 9, true), VowDoves.FULL);
        Due.refused(x, "16: of keeper 1", () -> x.see(1, 0, false), VowDoves.FULL);
        Due.due("16: seen", x.count(7), 8);
    }

    private static void seeRefusalsInTheirOrder() {
        VowDoves x = seenEight();
        Due.refused(x, "16: UNKNOWN ahead of OUTSIDE", () -> x.see(2, 10, true), VowDoves.UNKNOWN);
        Due.refused(x, "16: UNKNOWN ahead of FULL", () -> x.see(-1, 5, true), VowDoves.UNKNOWN);
        Due.refused(x, "16: OUTSIDE ahead of FULL", () -> x.see(0, 10, true), VowDoves.OUTSIDE);
        VowDoves none = new VowDoves();
        Due.refused(none, "16: no tower", () -> none.see(0, -1, true), VowDoves.UNKNOWN);
    }

    private static void faithsAre(String keeper, int hard, boolean kept, int want) {
        VowDoves x = Due.towerOf(keeper + ",k0;00");
        x.see(0, hard, kept);
        Due.due("16: faiths of " + keeper + ", " + hard + " hard, kept: " + kept, x.keeper(0, 5), want);
    }

    private static void seenFaithsAtTheEdges() {
        // A keeper keeps one 5 hard in 0 of ten with faith 0; one 0 hard in 10 of ten from faith 5 on.
        faithsAre("k9", 4, true, 1023);
        faithsAre("k9", 5, true, 1022);
        faithsAre("k0", 9, true, 992);
        faithsAre("k0", 0, false, 31);
        faithsAre("k0", 4, false, 511);
        faithsAre("k0", 5, false, 1023);
        faithsAre("w0", 9, true, 1023);
        faithsAre("w0", 0, false, 31);
        faithsAre("l0", 9, true, 992);
        faithsAre("m0", 0, false, 7);
        faithsAre("m0", 6, false, 511);
        faithsAre("m0", 7, false, 1023);
        faithsAre("b0", 7, true, 0);
        faithsAre("b0", 6, true, 768);
        faithsAre("b0", 2, false, 511);
        faithsAre("b0", 3, false, 1023);
    }

    private static void seenLikelyOfLikeOnesTheLeast() {
        VowDoves x = Due.towerOf("k7,w7;00");
        Due.due("16: nothing is seen", x.keeper(0, 6), 0);
        x.see(0, 0, true);
        Due.due("16: from 5 on always kept", x.keeper(0, 6), 5);
        x.forget();
        x.see(0, 9, false);
        Due.due("16: up to 4 always broken", x.keeper(0, 6), 0);
        x.forget();
        // With faith 4 it is kept in 4 of ten, with 6 in 6: once kept and once broken is alike but for 5.
        x.see(0, 5, true);
        x.see(0, 5, false);
        Due.due("16: 5 of ten", x.keeper(0, 6), 5);
        x.see(1, 9, false);
        Due.due("16: a widow up to 7", x.keeper(1, 6), 0);
        x.see(1, 9, true);
        Due.due("16: a widow with 9", x.keeper(1, 6), 9);
        x.forget();
        // 9 hard once kept, 8 hard once broken: (f - 4) times (13 - f), so 8 and 9 are alike.
        x.see(0, 9, true);
        x.see(0, 8, false);
        Due.due("16: 8, not 9", x.keeper(0, 6), 8);
    }

    private static void seenEightOfOne() {
        VowDoves x = Due.towerOf("k0,w0;00");
        for (int n = 1; n <= 8; n++) {
            x.see(0, 0, true);
        }
        // Ten to the 8 parts of as many, from 5 on.
        Due.due("16: likely", x.keeper(0, 6), 5);
        Due.due("16: faiths", x.keeper(0, 5), 1023);
        x.forget();
        for (int n = 1; n <= 7; n++) {
            x.see(0, 9, true);
        }
        x.see(0, 0, false);
        Due.due("16: the eighth rules all out", x.keeper(0, 5), 0);
        Due.due("16: so none is likely", x.keeper(0, 6), VowDoves.NONE);
    }

    // ---- promise 17

    private static void forgetNothing() {
        VowDoves x = Due.towerOf("k5,w5;55");
        long before = x.digest();
        Due.due("17: forget()", x.forget(), 0);
        Due.due("17: digest then", x.digest(), before);
    }

    private static void forgetWithoutATower() {
        VowDoves x = new VowDoves();
        long before = x.digest();
        Due.due("17: forget()", x.forget(), 0);
        Due.due("17: digest then", x.digest(), before);
    }

    private static void forgetEight() {
        VowDoves x = Due.towerOf("k5,w5;55");
        long before = x.digest();
        for (int n = 1; n <= 8; n++) {
            x.see(n % 2, 9, n > 4);
        }
        Due.due("17: forget()", x.forget(), 8);
        Due.due("17: digest is as it was", x.digest(), before);
        Due.due("17: forget() again", x.forget(), 0);
        Due.due("17: see() then", x.see(0, 5, true), 1);
        Due.due("17: just this is seen", x.keeper(0, 5), 1022);
        Due.due("17: forget() once more", x.forget(), 1);
    }

    // ---- promise 18

    private static VowDoves oneLet(String text) {
        VowDoves x = Due.towerOf(text);
        x.let(0, 0);
        return x;
    }

    private static void centuriesYearsOutside() {
        VowDoves x = oneLet("k0,k9;90");
        for (int years : new int[] {LEAST, -1, 0, 61, 62, 100, MOST}) {
            Due.refused(x, "18: centuries(" + years + ", 0, 0)", () -> x.centuries(years, 0, 0), VowDoves.OUTSIDE);
        }
        Due.due("18: 1 year", x.centuries(1, 0, 0), 1);
        Due.due("18: 60 years", x.centuries(60, 0, 0), 60);
    }

    private static void centuriesSeedOutside() {
        VowDoves x = oneLet("k0,k9;90");
        for (int seed : new int[] {LEAST, LEAST + 1, -2, -1}) {
            for (int what = 0; what <= 2; what++) {
                int asked = what;
                Due.refused(x, "18: centuries(1, " + seed + ", " + what + ")", () -> x.centuries(1, seed, asked),
                    VowDoves.OUTSIDE);
            }
        }
        Due.due("18: seed 0", x.centuries(1, 0, 2), 12345);
        Due.due("18: the largest seed", x.centuries(1, MOST, 0), 1);
    }

    private static void centuriesWhatOutside() {
        VowDoves x = oneLet("k0,k9;90");
        for (int what : new int[] {LEAST, -1, 3, 4, MOST}) {
            Due.refused(x, "18: centuries(1, 0, " + what + ")", () -> x.centuries(1, 0, what), VowDoves.OUTSIDE);
        }
    }

    private static void centuriesWithoutATower() {
        VowDoves x = new VowDoves();
        Due.refused(x, "18: centuries(1, 0, 0)", () -> x.centuries(1, 0, 0), VowDoves.STATE);
        Due.refused(x, "18: centuries(60, most, 2)", () -> x.centuries(60, MOST, 2), VowDoves.STATE);
        Due.refused(x, "18: OUTSIDE first, of years", () -> x.centuries(61, 0, 0), VowDoves.OUTSIDE);
        Due.refused(x, "18: OUTSIDE first, of the seed", () -> x.centuries(1, -1, 0), VowDoves.OUTSIDE);
        Due.refused(x, "18: OUTSIDE first, of what", () -> x.centuries(1, 0, 3), VowDoves.OUTSIDE);
    }

    private static void centuriesAre(VowDoves x, String when, int years, int seed, int[] want) {
        long before = x.digest();
        for (int what = 0; what <= 2; what++) {
            Due.due("18: " + when + ", centuries(" + years + ", " + seed + ", " + what + ")",
                x.centuries(years, seed, what), want[what]);
        }
        Due.due("18: digest behind " + when, x.digest(), before);
    }

    private static void centuriesOfNothingLet() {
        VowDoves x = Due.towerOf("k0,k9;90");
        centuriesAre(x, "no draw", 60, 0, new int[] {0, 0, 0});
        centuriesAre(x, "no draw of the largest", 60, MOST, new int[] {0, 0, MOST});
        x.let(0, 0);
        x.year(0);
        centuriesAre(x, "an owl draws nothing", 60, 631, new int[] {0, 0, 631});
    }

    /** The seed behind so many draws, reckoned without a bound. */
    private static int seedAfter(int draws, int seed) {
        BigInteger at = BigInteger.valueOf(seed);
        for (int draw = 0; draw < draws; draw++) {
            at = at.multiply(BigInteger.valueOf(1103515245)).add(BigInteger.valueOf(12345))
                .mod(BigInteger.ONE.shiftLeft(31));
        }
        return at.intValueExact();
    }

    private static void centuriesNeverAndAlways() {
        centuriesAre(oneLet("k0,k9;90"), "0 of ten", 60, 7, new int[] {60, 0, seedAfter(60, 7)});
        centuriesAre(oneLet("k5,k9;00"), "10 of ten", 60, 7, new int[] {0, 60, seedAfter(60, 7)});
    }

    private static void centuriesDrawAsLargeAsTheYears() {
        // From seed 0 the draws are 0, 8, 8, 7.
        centuriesAre(oneLet("k0,k9;59"), "a draw of 0, kept in 0", 1, 0, new int[] {1, 0, 12345});
        centuriesAre(oneLet("k0,k9;49"), "a draw of 0, kept in 1", 1, 0, new int[] {0, 1, 12345});
        centuriesAre(oneLet("k8,k9;59"), "a draw of 8, kept in 8", 2, 0, new int[] {1, 0, 1406932606});
        centuriesAre(oneLet("k9,k9;59"), "a draw of 8, kept in 9", 2, 0, new int[] {0, 2, 1406932606});
        centuriesAre(oneLet("k7,k9;59"), "a draw of 7, kept in 7", 4, 0, new int[] {3, 0, 1449466924});
        centuriesAre(oneLet("k8,k9;59"), "a draw of 7, kept in 8", 4, 0, new int[] {2, 1, 1449466924});
    }

    private static void centuriesSeedWraps() {
        // 2 to the 31, less 1103515245, and 12345; by 65536 it is 15929: a draw of 9.
        centuriesAre(oneLet("k9,k9;59"), "the largest, kept in 9", 1, MOST, new int[] {1, 0, 1043980748});
        centuriesAre(oneLet("k5,k9;09"), "the largest, kept in 10", 1, MOST, new int[] {0, 1, 1043980748});
        VowDoves x = oneLet("k5,k9;09");
        for (int seed : new int[] {0, 1, 2, 3, 1 << 16, 1 << 30, (1 << 30) + 1, MOST - 1, MOST}) {
            Due.due("18: one from " + seed, x.centuries(1, seed, 2), seedAfter(1, seed));
            Due.due("18: sixty from " + seed, x.centuries(60, seed, 2), seedAfter(60, seed));
        }
    }

    private static void centuriesOfFiveHoles() {
        VowDoves x = Due.towerOf("k5,k0,k7;09090");
        x.let(0, 0);
        x.let(1, 1);
        x.let(2, 0);
        x.let(3, 1);
        x.let(4, 2);
        x.year(31);
        centuriesAre(x, "three always, two never", 60, 11, new int[] {120, 183, seedAfter(300, 11)});
        VowDoves y = Due.towerOf("k5,k5,k5;55555");
        for (int hole = 0; hole < 5; hole++) {
            y.let(hole, hole / 2);
        }
        // From seed 0 the draws are 0, 8, 8, 7, 8, by holes: just that of hole 0 is less than 5.
        centuriesAre(y, "one year, by holes", 1, 0, new int[] {4, 1, seedAfter(5, 0)});
        y.year(16);
        y.forgive();
        centuriesAre(y, "just the last one", 1, 0, new int[] {0, 2, 12345});
    }

    private static void centuriesOfALord() {
        VowDoves x = Due.towerOf("l9,k9;000");
        x.let(0, 0);
        x.let(1, 0);
        centuriesAre(x, "the lord's alone", 60, 5, new int[] {0, 0, seedAfter(120, 5)});
        x.let(2, 1);
        centuriesAre(x, "with the keeper's", 60, 5, new int[] {0, 60, seedAfter(180, 5)});
    }

    private static void centuriesBehindYear99() {
        VowDoves x = oneLet("k5,k9;00");
        for (int year = 1; year <= 99; year++) {
            x.year(1);
        }
        // They are only as they would be, so that year 100 refuses none.
        centuriesAre(x, "with 99 eggs", 60, 0, new int[] {0, 159, seedAfter(60, 0)});
        Due.due("18: years", x.count(6), 99);
    }

    // ---- promise 19

    private static void imageWithoutATower() {
        VowDoves x = new VowDoves();
        Due.refused(x, "19: image()", x::image, VowDoves.STATE);
        Due.refused(x, "19: restore() then", x::restore, VowDoves.STATE);
    }

    private static void imageOfYear0AndYear99() {
        VowDoves x = oneLet("k5,k9;00");
        Due.due("19: year 0", x.image(), 0);
        for (int year = 1; year <= 99; year++) {
            x.year(1);
        }
        Due.due("19: back in year 0", x.restore(), 0);
        Due.due("19: no eggs", x.count(4), 0);
        for (int year = 1; year <= 99; year++) {
            x.year(1);
        }
        Due.due("19: year 99", x.image(), 99);
        x.leave(0);
        Due.due("19: back in year 99", x.restore(), 99);
        Due.due("19: its eggs", x.count(4), 99);
        Due.refused(x, "19: year 100", () -> x.year(1), VowDoves.FULL);
    }

    private static void imageTheLatest() {
        VowDoves x = oneLet("k5,k9;00");
        Due.due("19: one", x.image(), 0);
        x.year(1);
        Due.due("19: a later one", x.image(), 1);
        Due.due("19: the same again", x.image(), 1);
        x.year(0);
        Due.due("19: the latest", x.restore(), 1);
        Due.due("19: its egg", x.hole(0, 3), 1);
        x.year(0);
        Due.due("19: it stays kept", x.restore(), 1);
    }

    private static void imageKeepsEachOfItsParts() {
        VowDoves x = Due.towerOf("k5,w5,b5;55555");
        x.let(0, 0);
        x.let(4, 2);
        x.let(2, 1);
        x.year(17);
        for (int n = 0; n < 8; n++) {
            x.see(n % 3, n, n % 2 == 0);
        }
        long before = x.digest();
        Due.due("19: image()", x.image(), 1);
        Due.due("19: it changes nothing", x.digest(), before);
        x.leave(0);
        x.forgive();
        x.let(0, 2);
        x.let(2, 0);
        x.year(4);
        x.forget();
        // Other keepers, other vows, kept where the image has them broken.
        for (int n = 0; n < 8; n++) {
            x.see(2 - n % 3, 9 - n, n % 2 != 0);
        }
        Due.due("19: restore()", x.restore(), 1);
        Due.due("19: to whom hole 0 is let", x.hole(0, 1), 0);
        Due.due("19: the last hole", x.hole(4, 1), 2);
        Due.due("19: the owl", x.hole(2, 2), 2);
        Due.due("19: eggs", x.count(4), 2);
        Due.due("19: broken", x.keeper(1, 4), 1);
        Due.due("19: not broken", x.keeper(2, 4), 0);
        Due.due("19: years", x.count(6), 1);
        Due.due("19: seen", x.count(7), 8);
        Due.due("19: all is as it was", x.digest(), before);
        Due.refused(x, "19: a ninth", () -> x.see(0, 0, true), VowDoves.FULL);
    }

    // ---- promise 20

    private static void restoreWhenNoneWasKept() {
        VowDoves none = new VowDoves();
        Due.refused(none, "20: no tower", none::restore, VowDoves.STATE);
        VowDoves x = oneLet("k5,k9;00");
        x.year(1);
        Due.refused(x, "20: none was kept", x::restore, VowDoves.STATE);
    }

    private static void restoreAnotherTowerSince() {
        VowDoves x = oneLet("k5,k9;00");
        x.image();
        Due.write(x, "k5,k9;00");
        Due.due("20: tower()", x.tower(), 2);
        Due.refused(x, "20: another tower of the same text", x::restore, VowDoves.STATE);
        Due.due("20: image() of it", x.image(), 0);
        Due.due("20: restore()", x.restore(), 0);
        Due.due("20: it is not let", x.count(2), 0);
        Due.write(x, "m5,l9;000");
        Due.due("20: tower()", x.tower(), 3);
        Due.refused(x, "20: another one of another text", x::restore, VowDoves.STATE);
    }

    private static void restoreWhatAnImageDoesNotKeep() {
        VowDoves x = oneLet("k5,k9;00");
        Due.write(x, "k");
        x.image();
        Due.write(x, "5,");
        Due.due("20: restore()", x.restore(), 0);
        Due.due("20: letters", x.count(8), 3);
        x.blank();
        Due.due("20: restore() again", x.restore(), 0);
        Due.due("20: no letters", x.count(8), 0);
        Due.due("20: towers read", x.count(9), 1);
    }

    // ---- refusals change nothing, the image neither

    private static void refusalsLeaveTheImage() {
        VowDoves x = oneLet("k5,k9;00");
        x.year(1);
        x.see(0, 5, true);
        long before = x.digest();
        x.image();
        x.let(9, 0);
        x.let(0, 0);
        x.leave(1);
        x.leave(9);
        x.year(4);
        x.tower();
        x.letter(0);
        x.see(9, 0, true);
        x.see(0, 10, true);
        x.odds(3, 0);
        x.match(1);
        x.centuries(61, 0, 0);
        x.count(10);
        x.keeper(9, 9);
        Due.due("refusals: digest then", x.digest(), before);
        x.year(0);
        x.forget();
        Due.due("refusals: restore()", x.restore(), 1);
        Due.due("refusals: the image is as it was", x.digest(), before);
    }

    // ---- promise 21

    private static void countOutside() {
        VowDoves none = new VowDoves();
        VowDoves x = oneLet("k5,k9;00");
        for (int what : new int[] {LEAST, -1, 10, 11, MOST}) {
            Due.refused(none, "21: no tower, count(" + what + ")", () -> none.count(what), VowDoves.OUTSIDE);
            Due.refused(x, "21: count(" + what + ")", () -> x.count(what), VowDoves.OUTSIDE);
        }
    }

    private static void countOfNothingAndOfMost() {
        VowDoves x = Due.towerOf("k5,w5,l5,b5,m5;55555");
        int[] first = {5, 5, 0, 0, 0, 0, 0, 0, 0, 1};
        for (int what = 0; what <= 9; what++) {
            Due.due("21: at first, count(" + what + ")", x.count(what), first[what]);
        }
        for (int hole = 0; hole < 5; hole++) {
            x.let(hole, hole == 2 ? 0 : hole);
        }
        for (int year = 1; year <= 98; year++) {
            x.year(31);
        }
        for (int n = 0; n < 8; n++) {
            x.see(n % 5, n, true);
        }
        for (int n = 0; n < 22; n++) {
            x.letter('k');
        }
        int[] most = {5, 5, 5, 0, 490, 0, 98, 8, 22, 1};
        for (int what = 0; what <= 9; what++) {
            Due.due("21: at most, count(" + what + ")", x.count(what), most[what]);
        }
        x.year(0);
        int[] last = {5, 5, 0, 5, 0, 5, 99, 8, 22, 1};
        for (int what = 0; what <= 9; what++) {
            Due.due("21: at last, count(" + what + ")", x.count(what), last[what]);
        }
    }

    private static void countTowersRead() {
        VowDoves x = new VowDoves();
        for (int n = 1; n <= 20; n++) {
            x.tower();
            Due.due("21: refused ones do not count", x.count(9), n - 1);
            Due.write(x, n % 2 == 0 ? "k0,k0;00" : "m9,l9,b9;9999");
            x.tower();
            Due.due("21: towers read", x.count(9), n);
        }
    }

    // ---- promise 22

    /** Reckoned without a bound, and only then cut to a long. */
    private static long digestOf(int... numbers) {
        BigInteger h = BigInteger.valueOf(1063);
        for (int number : numbers) {
            h = h.multiply(BigInteger.valueOf(31)).add(BigInteger.valueOf(number));
        }
        return h.longValue();
    }

    private static void digestOfAnEmptyObject() {
        Due.due("22: digest of nothing", new VowDoves().digest(), digestOf(0, 0, 0, 0, 0, 0, 0, 0, 0, 0));
    }

    private static void digestWraps() {
        VowDoves x = Due.towerOf("k0,w9;09");
        int[] first = {
            0, 0, 0, 0, 0, 1023, 0, 5, 0, 0,
            1, 9, 0, 0, 0, 1023, 0, 10, 9, 5,
            0, -1, 0, 0, -1,
            9, -1, 0, 0, -1,
            1, 1,
            15, 1, 1, -1, -1, -1,
            2, 2, 0, 0, 0, 0, 0, 0, 0, 1};
        Due.due("22: digest of a tower", x.digest(), digestOf(first));
        x.let(1, 0);
        x.see(0, 9, true);
        x.see(0, 0, false);
        int[] never = {
            0, 0, 2, 0, 0, 0, -1, 5, 0, 0,
            1, 9, 0, 0, 0, 1023, 0, 10, 9, 5,
            0, -1, 0, 0, -1,
            9, 0, 1, 0, 0,
            0, 1,
            10, 1, -1, -1, -1, -1,
            2, 2, 1, 0, 0, 0, 0, 2, 0, 1};
        Due.due("22: digest of what is never kept", x.digest(), digestOf(never));
        x.forget();
        x.leave(1);
        x.let(0, 0);
        int[] half = {
            0, 0, 1, 0, 0, 1023, 0, 5, 0, 0,
            1, 9, 0, 0, 0, 1023, 0, 10, 9, 5,
            0, 0, 1, 0, 5,
            9, -1, 0, 0, -1,
            1, 4,
            5, -1, 1, -1, -1, -1,
            2, 2, 1, 0, 0, 0, 0, 0, 0, 1};
        Due.due("22: digest of odds for two years", x.digest(), digestOf(half));
    }

    private static void digestOfAFullPage() {
        VowDoves x = new VowDoves();
        int[] numbers = new int[32];
        for (int n = 0; n < 22; n++) {
            numbers[n] = n == 0 ? 1 : 127 - n;
            x.letter(numbers[n]);
        }
        numbers[30] = 22;
        Due.due("22: digest of a full page", x.digest(), digestOf(numbers));
    }

    private static void digestChangesNothing() {
        VowDoves x = oneLet("k5,k9;00");
        x.year(1);
        x.letter('k');
        long first = x.digest();
        Due.due("22: the same again", x.digest(), first);
        Due.due("22: letters", x.count(8), 1);
        Due.due("22: years", x.count(6), 1);
    }
}
