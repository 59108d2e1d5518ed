/** Promises 16 to 18 and what keeper() tells of what is seen: see, forget, centuries. */
public final class SeenTest {
    public static void main(String[] args) {
        sees();
        faiths();
        likely();
        centuries();
        longCenturies();
        centuriesOfSome();
        centuriesRefused();
        Due.end();
    }

    private static void sees() {
        VowDoves x = Due.towerOf("k5,w5;12");
        Due.due("see(2, 0, true)", x.see(2, 0, true), VowDoves.UNKNOWN);
        Due.due("see(-1, 10, true)", x.see(-1, 10, true), VowDoves.UNKNOWN);
        Due.due("see(0, 10, true)", x.see(0, 10, true), VowDoves.OUTSIDE);
        Due.due("see(0, -1, true)", x.see(0, -1, true), VowDoves.OUTSIDE);
        Due.due("nothing is seen", x.count(7), 0);
        for (int n = 1; n <= 8; n++) {
            Due.due("see " + n, x.see(n % 2, n, n > 4), n);
        }
        long before = x.digest();
        Due.due("see 9", x.see(0, 0, true), VowDoves.FULL);
        Due.due("see 9, outside", x.see(0, 10, true), VowDoves.OUTSIDE);
        Due.due("see 9, unknown", x.see(2, 0, true), VowDoves.UNKNOWN);
        Due.due("digest then", x.digest(), before);
        Due.due("forget()", x.forget(), 8);
        Due.due("forget() again", x.forget(), 0);
        Due.due("faiths then", x.keeper(0, 5), 1023);
        Due.due("see then", x.see(1, 9, false), 1);
    }

    private static void faiths() {
        faiths("k5", 1023 & ~31, 9, true);
        faiths("k5", 1022, 5, true, 5, false);
        faiths("k5", 31, 0, false);
        faiths("w5", 1023, 9, true);
        faiths("m5", 7, 0, false);
        faiths("m5", 15, 1, false);
        faiths("l5", 1023 & ~31, 9, true);
        faiths("b5", 0, 9, true);
        faiths("b5", 768, 0, true, 6, true, 7, false, 6, true, 6, false, 3, true);
        faiths("k5", 0, 9, true, 0, false);
    }

    /** What is seen comes in pairs: how hard, and whether it was kept. */
    private static void faiths(String keeper, int want, Object... seen) {
        VowDoves x = Due.towerOf("k1," + keeper + ";00");
        for (int i = 0; i < seen.length; i += 2) {
            x.see(1, (Integer) seen[i], (Boolean) seen[i + 1]);
        }
        x.see(0, 9, true);
        Due.due("faiths of " + keeper, x.keeper(1, 5), want);
        if (want == 0) {
            Due.due("likely of " + keeper, x.keeper(1, 6), VowDoves.NONE);
        }
        Due.due("faiths of another one", x.keeper(0, 5), 1023 & ~31);
        Due.due("his own faith stays", x.keeper(1, 1), 5);
    }

    private static void likely() {
        VowDoves x = Due.towerOf("k1,w9;00");
        x.see(0, 5, true);
        Due.due("kept once", x.keeper(0, 6), 9);
        x.see(0, 5, false);
        Due.due("kept once, broken once", x.keeper(0, 6), 5);
        x.see(0, 5, false);
        Due.due("kept once, broken twice", x.keeper(0, 6), 3);
        x.forget();
        x.see(0, 0, true);
        Due.due("of like ones the least", x.keeper(0, 6), 5);
        x.see(0, 9, false);
        Due.due("of like ones, one is likelier", x.keeper(0, 6), 4);
        x.see(1, 9, false);
        Due.due("a widow of any faith up to 7", x.keeper(1, 6), 0);
        x.see(1, 9, true);
        Due.due("broken and kept", x.keeper(1, 6), 9);
        x.forget();
        for (int i = 0; i < 8; i++) {
            x.see(0, 9, true);
        }
        Due.due("kept eight times", x.keeper(0, 6), 9);
    }

    private static void centuries() {
        VowDoves x = Due.towerOf("k5,k0;55");
        Due.due("none let: broken", x.centuries(60, 7, 0), 0);
        Due.due("none let: eggs", x.centuries(60, 7, 1), 0);
        Due.due("none let: seed", x.centuries(60, 7, 2), 7);
        x.let(0, 0);
        // From seed 0 the seeds are 12345, 1406932606, 654583775, 1449466924; the draws 0, 8, 8, 7.
        Due.due("seed after one", x.centuries(1, 0, 2), 12345);
        Due.due("seed after two", x.centuries(2, 0, 2), 1406932606);
        Due.due("seed after four", x.centuries(4, 0, 2), 1449466924);
        Due.due("eggs after one", x.centuries(1, 0, 1), 1);
        Due.due("broken after one", x.centuries(1, 0, 0), 0);
        Due.due("eggs after two", x.centuries(2, 0, 1), 0);
        Due.due("broken after four", x.centuries(4, 0, 0), 3);
        x.let(1, 0);
        Due.due("two holes: seed after two", x.centuries(2, 0, 2), 1449466924);
        Due.due("two holes: broken after one", x.centuries(1, 0, 0), 1);
        Due.due("two holes: eggs after one", x.centuries(1, 0, 1), 1);
        x.year(3);
        x.year(3);
        Due.due("with the eggs there are", x.centuries(1, 0, 1), 3);
        x.leave(1);
        Due.due("seed of the largest", x.centuries(1, Integer.MAX_VALUE, 2),
            (1103515245L * Integer.MAX_VALUE + 12345L) % (1L << 31));
    }

    private static void longCenturies() {
        VowDoves x = Due.towerOf("k5,b6;521");
        x.let(0, 0);
        Due.due("a draw of 5 is not less than 5", x.centuries(1, 36, 0), 1);
        x.let(1, 0);
        x.let(2, 1);
        // They keep them in 5, 8 and 9 of ten years.
        int[][] want = {{Integer.MAX_VALUE, 47, 14, 17220203}, {1, 47, 23, 752577037}, {1999999999, 45, 8, 2059441771}};
        for (int[] run : want) {
            for (int what = 0; what <= 2; what++) {
                Due.due("centuries(60, " + run[0] + ", " + what + ")", x.centuries(60, run[0], what), run[what + 1]);
            }
        }
    }

    private static void centuriesOfSome() {
        VowDoves x = Due.towerOf("l9,k9,k0;0099");
        x.let(0, 0);
        x.let(1, 1);
        x.let(2, 2);
        x.year(3);
        x.let(3, 2);
        long before = x.digest();
        Due.due("the owl's hole is not let", x.centuries(60, 3, 0), 60);
        Due.due("a lord eats his eggs", x.centuries(60, 3, 1), 61);
        Due.due("digest then", x.digest(), before);
        Due.due("years then", x.count(6), 1);
    }

    private static void centuriesRefused() {
        VowDoves x = Due.towerOf("k5,k0;55");
        x.let(0, 0);
        Due.due("centuries(0, 0, 0)", x.centuries(0, 0, 0), VowDoves.OUTSIDE);
        Due.due("centuries(61, 0, 0)", x.centuries(61, 0, 0), VowDoves.OUTSIDE);
        Due.due("centuries(-1, 0, 0)", x.centuries(-1, 0, 0), VowDoves.OUTSIDE);
        Due.due("centuries(1, -1, 0)", x.centuries(1, -1, 0), VowDoves.OUTSIDE);
        Due.due("centuries(1, 0, 3)", x.centuries(1, 0, 3), VowDoves.OUTSIDE);
        Due.due("centuries(1, 0, -1)", x.centuries(1, 0, -1), VowDoves.OUTSIDE);
        Due.due("centuries(60, most, 0) is none of these", x.centuries(60, Integer.MAX_VALUE, 0) > 0 ? 1 : 0, 1);
    }
}
