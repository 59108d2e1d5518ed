/** Promises 10 to 13: holes let and left, years, and all forgiven. */
public final class YearsTest {
    public static void main(String[] args) {
        lets();
        leaves();
        years();
        lordEatsHisEggs();
        yearHundred();
        forgives();
        Due.end();
    }

    private static void lets() {
        VowDoves x = Due.towerOf("k5,w5;12345");
        Due.due("let(0, 0)", x.let(0, 0), 1);
        Due.due("a dove is in it", x.hole(0, 2), 1);
        Due.due("it has no eggs", x.hole(0, 3), 0);
        Due.due("let(4, 0)", x.let(4, 0), 2);
        long before = x.digest();
        Due.due("he has two: let(1, 0)", x.let(1, 0), VowDoves.STATE);
        Due.due("not vacant: let(0, 1)", x.let(0, 1), VowDoves.STATE);
        Due.due("let(5, 0)", x.let(5, 0), VowDoves.UNKNOWN);
        Due.due("let(-1, 0)", x.let(-1, 0), VowDoves.UNKNOWN);
        Due.due("let(0, 2)", x.let(0, 2), VowDoves.UNKNOWN);
        Due.due("let(0, -1)", x.let(0, -1), VowDoves.UNKNOWN);
        Due.due("digest then", x.digest(), before);
        x.year(0);
        Due.due("an owl is in it: let(0, 1)", x.let(0, 1), VowDoves.STATE);
        Due.due("he has none now: let(1, 0)", x.let(1, 0), 1);
        Due.due("let(2, 0)", x.let(2, 0), 2);
        Due.due("let(3, 0)", x.let(3, 0), VowDoves.STATE);
        Due.due("let(3, 1)", x.let(3, 1), 1);
    }

    private static void leaves() {
        VowDoves x = Due.towerOf("k5,w5;123");
        x.let(0, 0);
        x.let(1, 1);
        x.year(3);
        x.year(3);
        x.year(1);
        Due.due("leave(0)", x.leave(0), 3);
        Due.due("to whom it is let", x.hole(0, 1), VowDoves.NONE);
        Due.due("which bird", x.hole(0, 2), 0);
        Due.due("eggs", x.hole(0, 3), 0);
        Due.due("holes of 0", x.keeper(0, 2), 0);
        long before = x.digest();
        Due.due("vacant: leave(0)", x.leave(0), VowDoves.STATE);
        Due.due("an owl: leave(1)", x.leave(1), VowDoves.STATE);
        Due.due("never let: leave(2)", x.leave(2), VowDoves.STATE);
        Due.due("leave(3)", x.leave(3), VowDoves.UNKNOWN);
        Due.due("leave(-1)", x.leave(-1), VowDoves.UNKNOWN);
        Due.due("digest then", x.digest(), before);
        Due.due("let again", x.let(0, 1), 1);
        Due.due("leave(0) at once", x.leave(0), 0);
    }

    private static void years() {
        VowDoves x = Due.towerOf("k5,w5,m5;1234");
        Due.due("a year with none let", x.year(15), 0);
        Due.due("no eggs of it", x.count(4), 0);
        Due.due("years", x.count(6), 1);
        x.let(0, 0);
        x.let(2, 0);
        x.let(3, 2);
        long before = x.digest();
        Due.due("year(16)", x.year(16), VowDoves.OUTSIDE);
        Due.due("year(-1)", x.year(-1), VowDoves.OUTSIDE);
        Due.due("year(least)", x.year(Integer.MIN_VALUE), VowDoves.OUTSIDE);
        Due.due("digest then", x.digest(), before);
        Due.due("year(15)", x.year(15), 3);
        Due.due("year(7)", x.year(7), 2);
        Due.due("eggs of 0", x.hole(0, 3), 2);
        Due.due("hole 1 has no bird", x.hole(1, 2), 0);
        Due.due("hole 1 has no eggs", x.hole(1, 3), 0);
        Due.due("hole 3 has an owl", x.hole(3, 2), 2);
        Due.due("hole 3 has no eggs", x.hole(3, 3), 0);
        Due.due("hole 3 is nobody's", x.hole(3, 1), VowDoves.NONE);
        Due.due("broken by 2", x.keeper(2, 4), 1);
        Due.due("an owl stays, kept or not: year(8)", x.year(8), 0);
        Due.due("owls", x.count(3), 3);
        Due.due("broken by 0", x.keeper(0, 4), 2);
        Due.due("broken by 2 still", x.keeper(2, 4), 1);
        Due.due("years", x.count(6), 4);
    }

    private static void lordEatsHisEggs() {
        VowDoves x = Due.towerOf("l5,k5;00");
        x.let(0, 0);
        x.let(1, 1);
        Due.due("year(3)", x.year(3), 2);
        Due.due("eggs of the lord", x.hole(0, 3), 0);
        Due.due("eggs of the keeper", x.hole(1, 3), 1);
        Due.due("the lord leaves", x.leave(0), 0);
    }

    private static void yearHundred() {
        VowDoves x = Due.towerOf("k5,m5;00");
        x.let(1, 1);
        for (int year = 1; year <= 99; year++) {
            Due.due("year " + year, x.year(2), 1);
        }
        long before = x.digest();
        Due.due("year 100", x.year(2), VowDoves.FULL);
        Due.due("year 100, outside", x.year(4), VowDoves.OUTSIDE);
        Due.due("digest then", x.digest(), before);
        Due.due("years", x.count(6), 99);
        Due.due("eggs", x.hole(1, 3), 99);
        Due.due("image of year 99", x.image(), 99);
    }

    private static void forgives() {
        VowDoves x = Due.towerOf("k5,w5;12345");
        Due.due("no owl", x.forgive(), 0);
        x.let(0, 0);
        x.let(1, 0);
        x.let(3, 1);
        x.year(1);
        Due.due("two owls", x.forgive(), 2);
        Due.due("hole 1 is vacant", x.hole(1, 2), 0);
        Due.due("hole 0 still has its dove", x.hole(0, 2), 1);
        Due.due("and its egg", x.hole(0, 3), 1);
        Due.due("and its keeper", x.hole(0, 1), 0);
        Due.due("what was broken stays", x.count(5), 2);
        Due.due("no owl is left", x.forgive(), 0);
        Due.due("it can be let again", x.let(1, 1), 1);
        x.let(4, 1);
        x.year(0);
        Due.due("the first and the last hole", x.forgive(), 3);
        Due.due("hole 0 is vacant", x.hole(0, 2), 0);
        Due.due("hole 4 is vacant", x.hole(4, 2), 0);
    }
}
