/** Promises 19 to 22: image, restore, count and digest. */
public final class WholeTest {
    public static void main(String[] args) {
        images();
        imageOfAnotherTower();
        counts();
        digestOfNoTower();
        digestOfATower();
        Due.end();
    }

    private static void images() {
        VowDoves x = Due.towerOf("k5,w5,b5;12345");
        Due.due("nothing kept: restore()", x.restore(), VowDoves.STATE);
        x.let(0, 0);
        x.let(1, 1);
        x.let(2, 2);
        x.year(5);
        x.year(1);
        x.let(3, 1);
        x.see(0, 5, true);
        x.see(1, 6, false);
        Due.due("image()", x.image(), 2);
        long before = x.digest();
        x.year(0);
        x.forgive();
        x.let(0, 2);
        x.year(1);
        x.forget();
        x.see(2, 1, false);
        x.see(2, 2, false);
        x.see(2, 3, false);
        Due.due("restore()", x.restore(), 2);
        Due.due("to whom hole 0 is let", x.hole(0, 1), 0);
        Due.due("which bird is in hole 1", x.hole(1, 2), 2);
        Due.due("eggs of hole 0", x.hole(0, 3), 2);
        Due.due("broken by 2", x.keeper(2, 4), 1);
        Due.due("years", x.count(6), 2);
        Due.due("seen", x.count(7), 2);
        Due.due("faiths of 0", x.keeper(0, 5), 1022);
        Due.due("digest is as it was", x.digest(), before);
        x.year(0);
        x.see(2, 9, false);
        Due.due("restore() again", x.restore(), 2);
        Due.due("digest is as it was again", x.digest(), before);
        x.year(9);
        Due.due("a later image()", x.image(), 3);
        x.year(0);
        Due.due("restore() of the latest", x.restore(), 3);
        x.letter('k');
        Due.due("restore() once more", x.restore(), 3);
        Due.due("the page is no part of it", x.count(8), 1);
    }

    private static void imageOfAnotherTower() {
        VowDoves x = Due.towerOf("k5,w5;12");
        Due.due("image()", x.image(), 0);
        Due.write(x, "k5,w5;1");
        Due.due("no tower", x.tower(), VowDoves.STATE);
        Due.due("so the image stays", x.restore(), 0);
        Due.write(x, "2");
        Due.due("the same text is another tower", x.tower(), 2);
        Due.due("restore() then", x.restore(), VowDoves.STATE);
        x.year(0);
        long before = x.digest();
        Due.due("restore() refused again", x.restore(), VowDoves.STATE);
        Due.due("digest then", x.digest(), before);
        Due.due("image() then", x.image(), 1);
        Due.due("restore() at last", x.restore(), 1);
        Due.due("towers read", x.count(9), 2);
    }

    private static void counts() {
        VowDoves x = Due.towerOf("k5,w5,l5;0000");
        x.let(0, 0);
        x.let(1, 0);
        x.let(2, 1);
        x.let(3, 2);
        x.year(15);
        x.year(13);
        x.see(0, 0, true);
        Due.write(x, "m1,");
        int[] want = {3, 4, 3, 1, 4, 1, 2, 1, 3, 1};
        for (int what = 0; what <= 9; what++) {
            Due.due("count(" + what + ")", x.count(what), want[what]);
        }
        x.forgive();
        x.let(1, 2);
        x.year(0);
        Due.due("let", x.count(2), 0);
        Due.due("owls", x.count(3), 4);
        Due.due("eggs", x.count(4), 0);
        Due.due("broken", x.count(5), 5);
        Due.due("count(10)", x.count(10), VowDoves.OUTSIDE);
        Due.due("count(-1)", x.count(-1), VowDoves.OUTSIDE);
        Due.due("count(least)", x.count(Integer.MIN_VALUE), VowDoves.OUTSIDE);
    }

    private static long digestOf(long... numbers) {
        long h = 1063;
        for (long number : numbers) {
            h = 31 * h + number;
        }
        return h;
    }

    private static void digestOfNoTower() {
        VowDoves x = new VowDoves();
        Due.due("digest of nothing", x.digest(), digestOf(0, 0, 0, 0, 0, 0, 0, 0, 0, 0));
        Due.write(x, "x~");
        Due.due("digest of a page", x.digest(), digestOf('x', '~', 0, 0, 0, 0, 0, 0, 0, 0, 2, 0));
    }

    private static void digestOfATower() {
        VowDoves x = Due.towerOf("k4,m1;590");
        x.let(0, 0);
        x.let(1, 1);
        x.year(1);
        x.see(1, 9, true);
        x.letter(';');
        Due.due("digest of a tower", x.digest(), digestOf(
            0, 4, 1, 1, 0, 1023, 0, 9, 4, 0,
            4, 1, 0, 0, 1, 1023, 9, 8, 3, 3,
            5, 0, 1, 1, 4,
            9, -1, 2, 0, -1,
            0, -1, 0, 0, -1,
            4, 25,
            9, -1, -1, 0, -1, -1,
            ';',
            2, 3, 1, 1, 1, 1, 1, 1, 1, 1));
    }
}
