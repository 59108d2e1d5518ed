/** Promises 14 and 15: odds and match. */
public final class WouldBeTest {
    public static void main(String[] args) {
        odds();
        oddsOfMany();
        match();
        matchOfLikeOnes();
        matchWithWhatIsLet();
        Due.end();
    }

    private static void oddsAre(VowDoves x, String when, long above, long below) {
        Due.due(when + ": odds(1, 0)", x.odds(1, 0), above);
        Due.due(when + ": odds(1, 1)", x.odds(1, 1), below);
        Due.due(when + ": odds(2, 0)", x.odds(2, 0), above * above);
        Due.due(when + ": odds(2, 1)", x.odds(2, 1), below * below);
    }

    private static void odds() {
        VowDoves x = Due.towerOf("k4,b0;5809");
        oddsAre(x, "none let", 1, 1);
        x.let(0, 0);
        oddsAre(x, "4 of 10", 2, 5);
        x.let(2, 1);
        oddsAre(x, "with 5 of 10", 1, 5);
        x.let(1, 0);
        oddsAre(x, "with 1 of 10", 1, 50);
        x.let(3, 1);
        oddsAre(x, "with 0 of 10", 0, 1);
        x.leave(3);
        x.year(1);
        oddsAre(x, "owls do not count", 2, 5);
        Due.due("odds(0, 0)", x.odds(0, 0), VowDoves.OUTSIDE);
        Due.due("odds(3, 0)", x.odds(3, 0), VowDoves.OUTSIDE);
        Due.due("odds(1, 2)", x.odds(1, 2), VowDoves.OUTSIDE);
        Due.due("odds(1, -1)", x.odds(1, -1), VowDoves.OUTSIDE);
        Due.due("odds(least, most)", x.odds(Integer.MIN_VALUE, Integer.MAX_VALUE), VowDoves.OUTSIDE);
    }

    private static void oddsOfMany() {
        VowDoves x = Due.towerOf("k4,w4,m4;26668");
        x.let(0, 0);
        x.let(1, 0);
        x.let(2, 1);
        x.let(3, 1);
        x.let(4, 2);
        oddsAre(x, "7 3 3 3 3", 7L * 81, 100000L);
        VowDoves sure = Due.towerOf("m9,m9;00");
        sure.let(0, 0);
        sure.let(1, 0);
        oddsAre(sure, "sure", 1, 1);
    }

    private static void matchIs(VowDoves x, String when, int... want) {
        Due.due(when + ": match(0)", x.match(0), want[0]);
        for (int hole = 0; hole < 5; hole++) {
            Due.due(when + ": match(" + (10 + hole) + ")", x.match(10 + hole), want[hole + 1]);
        }
    }

    private static void match() {
        matchIs(Due.towerOf("k2,k9;55"), "the better one has both", 18, 1, 1, -1, -1, -1);
        matchIs(Due.towerOf("k2,k9;555"), "two at most", 20, 0, 1, 1, -1, -1);
        matchIs(Due.towerOf("k9,k2;555"), "two at most", 20, 0, 0, 1, -1, -1);
        matchIs(Due.towerOf("b9,m0;0909"), "each what he keeps best", 26, 0, 1, 0, 1, -1);
        matchIs(Due.towerOf("k9,w0;09999"), "one stays vacant", 21, 0, -1, 0, 1, 1);
        VowDoves x = Due.towerOf("k2,k9;555");
        long before = x.digest();
        for (int what : new int[] {-1, 1, 9, 15, Integer.MIN_VALUE, Integer.MAX_VALUE}) {
            Due.due("match(" + what + ")", x.match(what), VowDoves.OUTSIDE);
        }
        Due.due("match(0)", x.match(0), 20);
        Due.due("digest then", x.digest(), before);
    }

    private static void matchOfLikeOnes() {
        matchIs(Due.towerOf("k5,k5,k5;55555"), "the first by numbers", 25, 0, 0, 1, 1, 2);
        matchIs(Due.towerOf("k5,k5;55555"), "nobody is ahead of all", 20, -1, 0, 0, 1, 1);
        matchIs(Due.towerOf("k0,k0;99"), "who never keeps it is left out", 0, -1, -1, -1, -1, -1);
        matchIs(Due.towerOf("k0,l0;909"), "so he is among others", 5, -1, 0, -1, -1, -1);
        matchIs(Due.towerOf("k0,l1;545"), "one year of ten is better than none", 3, -1, 1, 1, -1, -1);
        matchIs(Due.towerOf("w0,b0;95"), "a widow keeps some", 6, 0, 0, -1, -1, -1);
    }

    private static void matchWithWhatIsLet() {
        VowDoves x = Due.towerOf("k5,k4;55555");
        x.let(1, 0);
        matchIs(x, "one is let", 13, -1, -1, 0, 1, 1);
        x.let(0, 0);
        matchIs(x, "he has two", 8, -1, -1, -1, 1, 1);
        x.year(1);
        matchIs(x, "an owl is not vacant", 13, -1, -1, 0, 1, 1);
        x.forgive();
        matchIs(x, "it is forgiven", 13, -1, -1, 0, 1, 1);
        x.leave(0);
        matchIs(x, "all are vacant", 18, -1, 0, 0, 1, 1);
        x.let(0, 1);
        x.let(4, 1);
        x.let(2, 0);
        x.let(3, 0);
        matchIs(x, "all have two", 0, -1, -1, -1, -1, -1);
    }
}
