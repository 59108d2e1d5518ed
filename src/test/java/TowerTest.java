/** Promises 1 to 9: the page and the tower. */
public final class TowerTest {
    public static void main(String[] args) {
        newObject();
        letters();
        blank();
        faults();
        towers();
        towerIsGoneWithAllThatWas();
        keepers();
        casts();
        keepsOfKinds();
        holes();
        Due.end();
    }

    private static void newObject() {
        VowDoves x = new VowDoves();
        for (int what = 0; what <= 9; what++) {
            Due.due("new: count(" + what + ")", x.count(what), 0);
        }
        Due.due("new: keeper(0, 0)", x.keeper(0, 0), VowDoves.UNKNOWN);
        Due.due("new: as(0, 0)", x.as(0, 0), VowDoves.UNKNOWN);
        Due.due("new: keeps(0, 0)", x.keeps(0, 0), VowDoves.UNKNOWN);
        Due.due("new: hole(0, 0)", x.hole(0, 0), VowDoves.UNKNOWN);
        Due.due("new: let(0, 0)", x.let(0, 0), VowDoves.UNKNOWN);
        Due.due("new: leave(0)", x.leave(0), VowDoves.UNKNOWN);
        Due.due("new: see(0, 0, true)", x.see(0, 0, true), VowDoves.UNKNOWN);
        Due.due("new: year(0)", x.year(0), VowDoves.STATE);
        Due.due("new: year(1)", x.year(1), VowDoves.OUTSIDE);
        Due.due("new: odds(1, 0)", x.odds(1, 0), VowDoves.STATE);
        Due.due("new: odds(3, 0)", x.odds(3, 0), VowDoves.OUTSIDE);
        Due.due("new: match(0)", x.match(0), VowDoves.STATE);
        Due.due("new: match(14)", x.match(14), VowDoves.STATE);
        Due.due("new: match(15)", x.match(15), VowDoves.OUTSIDE);
        Due.due("new: centuries(1, 0, 0)", x.centuries(1, 0, 0), VowDoves.STATE);
        Due.due("new: centuries(0, 0, 0)", x.centuries(0, 0, 0), VowDoves.OUTSIDE);
        Due.due("new: image()", x.image(), VowDoves.STATE);
        Due.due("new: restore()", x.restore(), VowDoves.STATE);
        Due.due("new: tower()", x.tower(), VowDoves.STATE);
        Due.due("new: fault()", x.fault(), 0);
        Due.due("new: blank()", x.blank(), 0);
        Due.due("new: forgive()", x.forgive(), 0);
        Due.due("new: forget()", x.forget(), 0);
    }

    private static void letters() {
        VowDoves x = new VowDoves();
        Due.due("letter(1)", x.letter(1), 1);
        Due.due("letter(126)", x.letter(126), 2);
        Due.due("letter(0)", x.letter(0), VowDoves.OUTSIDE);
        Due.due("letter(127)", x.letter(127), VowDoves.OUTSIDE);
        Due.due("letter(-1)", x.letter(-1), VowDoves.OUTSIDE);
        Due.due("letter(least)", x.letter(Integer.MIN_VALUE), VowDoves.OUTSIDE);
        Due.due("letter(most)", x.letter(Integer.MAX_VALUE), VowDoves.OUTSIDE);
        for (int n = 3; n <= 22; n++) {
            Due.due("letter " + n, x.letter('k'), n);
        }
        long before = x.digest();
        Due.due("letter 23", x.letter('k'), VowDoves.FULL);
        Due.due("letter 23, outside", x.letter(127), VowDoves.OUTSIDE);
        Due.due("letters then", x.count(8), 22);
        Due.due("digest then", x.digest(), before);
    }

    private static void blank() {
        VowDoves x = new VowDoves();
        Due.write(x, "k1,w2");
        Due.due("blank()", x.blank(), 5);
        Due.due("blank() again", x.blank(), 0);
        Due.due("letters then", x.count(8), 0);
        Due.due("letter then", x.letter('m'), 1);
        Due.due("fault then", x.fault(), 1);
        VowDoves stands = Due.towerOf("k1,w2;34");
        Due.write(stands, "xyz");
        stands.let(0, 1);
        Due.due("blank() with a tower", stands.blank(), 3);
        Due.due("it is still let", stands.hole(0, 1), 1);
    }

    private static void faults() {
        fault("", 0);
        fault("k", 1);
        fault("k0,", 3);
        fault("k0,w", 4);
        fault("k0,w9", 5);
        fault("k0,w9;", 6);
        fault("k0,w9;1", 7);
        fault("k0,w9;12", 8);
        fault("k0,w9;12345", 11);
        fault("k0,w9;123456", 11);
        fault("k0,w9;12,", 8);
        fault("k0,w9;,", 6);
        fault("k0;", 2);
        fault("K0", 0);
        fault("a0", 0);
        fault("0k", 0);
        fault(",", 0);
        fault("kk", 1);
        fault("k,", 1);
        fault("k/", 1);
        fault("k:", 1);
        fault("k00", 2);
        fault("k0 ", 2);
        fault("k0,,", 3);
        fault("k0,;", 3);
        fault("k0,w9;1k", 7);
        fault("k0,w1,l2,b3,m4;12345", 20);
        fault("k0,w1,l2,b3,m4;123456", 20);
        fault("k0,w1,l2,b3,m4,k5", 14);
        fault("k0,w1,l2,b3,m4;1/", 16);
        fault("k0,w1,l2,b3,m4;1:", 16);
        fault("k0,w1,l2,b3,m4;01x9x99", 17);
    }

    private static void fault(String text, int want) {
        VowDoves x = new VowDoves();
        Due.write(x, text);
        Due.due("fault() of " + text, x.fault(), want);
        Due.due("letters of " + text + " then", x.count(8), text.length());
    }

    private static void towers() {
        String[] none = {"", "k0,w9", "k0,w9;", "k0,w9;1", "k0;12", "k0,w9;123456", "k0,w9;12,", "k0,w9,;12",
            "k0,w1,l2,b3,m4,k5;12", "k0,w9;12 ", " k0,w9;12", "k0 w9;12", "K0,w9;12"};
        for (String text : none) {
            VowDoves x = Due.towerOf("m1,b2;345");
            Due.write(x, text);
            long before = x.digest();
            Due.due("tower() of " + text, x.tower(), VowDoves.STATE);
            Due.due("the page of " + text, x.count(8), text.length());
            Due.due("digest with " + text, x.digest(), before);
        }
        VowDoves x = Due.towerOf("k0,w1,l2,b3,m4;98765");
        Due.due("keepers", x.count(0), 5);
        Due.due("holes", x.count(1), 5);
        Due.due("the page then", x.count(8), 0);
        Due.due("towers read", x.count(9), 1);
        VowDoves y = Due.towerOf("m9,m0;10");
        Due.due("keepers", y.count(0), 2);
        Due.due("holes", y.count(1), 2);
        Due.due("hole 2", y.hole(2, 0), VowDoves.UNKNOWN);
        Due.due("keeper 2", y.keeper(2, 0), VowDoves.UNKNOWN);
    }

    private static void towerIsGoneWithAllThatWas() {
        VowDoves x = Due.towerOf("k5,w5,l5;55555");
        x.let(0, 0);
        x.let(1, 0);
        x.let(4, 1);
        x.year(1);
        x.see(0, 3, true);
        x.image();
        Due.write(x, "k5,w5,l5;55555");
        Due.due("tower() again", x.tower(), 5);
        Due.due("let then", x.count(2), 0);
        Due.due("owls then", x.count(3), 0);
        Due.due("eggs then", x.count(4), 0);
        Due.due("broken then", x.count(5), 0);
        Due.due("years then", x.count(6), 0);
        Due.due("seen then", x.count(7), 0);
        Due.due("towers read then", x.count(9), 2);
        Due.due("restore() then", x.restore(), VowDoves.STATE);
        Due.write(x, "b1,m2;90");
        Due.due("a smaller tower", x.tower(), 2);
        Due.due("keeper 2 is gone", x.keeper(2, 0), VowDoves.UNKNOWN);
        Due.due("hole 2 is gone", x.hole(2, 0), VowDoves.UNKNOWN);
        Due.due("kind of 0", x.keeper(0, 0), 3);
        Due.due("how hard hole 1 is", x.hole(1, 0), 0);
        Due.due("bits of a hole that is gone", x.year(4), VowDoves.OUTSIDE);
    }

    private static void keepers() {
        VowDoves x = Due.towerOf("k0,w1,l2,b3,m9;00000");
        for (int k = 0; k < 5; k++) {
            Due.due("keeper(" + k + ", 0)", x.keeper(k, 0), k);
            Due.due("keeper(" + k + ", 1)", x.keeper(k, 1), k == 4 ? 9 : k);
            for (int what = 2; what <= 4; what++) {
                Due.due("keeper(" + k + ", " + what + ")", x.keeper(k, what), 0);
            }
            Due.due("keeper(" + k + ", 5)", x.keeper(k, 5), 1023);
            Due.due("keeper(" + k + ", 6)", x.keeper(k, 6), 0);
        }
        x.let(1, 3);
        x.let(4, 3);
        x.let(2, 2);
        Due.due("holes of the boy", x.keeper(3, 2), 18);
        Due.due("holes of the lord", x.keeper(2, 2), 4);
        x.year(31);
        x.year(31);
        Due.due("eggs of the boy", x.keeper(3, 3), 4);
        Due.due("eggs of the lord", x.keeper(2, 3), 0);
        x.year(2);
        Due.due("holes of the boy then", x.keeper(3, 2), 2);
        Due.due("eggs of the boy then", x.keeper(3, 3), 3);
        Due.due("broken by the boy", x.keeper(3, 4), 1);
        Due.due("broken by the lord", x.keeper(2, 4), 1);
        Due.due("broken by the keeper", x.keeper(0, 4), 0);
        Due.due("keeper(5, 0)", x.keeper(5, 0), VowDoves.UNKNOWN);
        Due.due("keeper(-1, 9)", x.keeper(-1, 9), VowDoves.UNKNOWN);
        Due.due("keeper(0, 7)", x.keeper(0, 7), VowDoves.OUTSIDE);
        Due.due("keeper(0, -1)", x.keeper(0, -1), VowDoves.OUTSIDE);
    }

    private static void casts() {
        VowDoves x = Due.towerOf("k0,w1,l2,b3,m4;00");
        String[] can = {"10000", "11000", "10100", "10010", "11001"};
        for (int k = 0; k < 5; k++) {
            for (int kind = 0; kind < 5; kind++) {
                Due.due("as(" + k + ", " + kind + ")", x.as(k, kind), can[k].charAt(kind) == '1' ? k : VowDoves.NONE);
            }
        }
        Due.due("as(5, 0)", x.as(5, 0), VowDoves.UNKNOWN);
        Due.due("as(-1, 5)", x.as(-1, 5), VowDoves.UNKNOWN);
        Due.due("as(0, 5)", x.as(0, 5), VowDoves.OUTSIDE);
        Due.due("as(0, -1)", x.as(0, -1), VowDoves.OUTSIDE);
    }

    private static void keepsOfKinds() {
        keeps("k0", "5432100000");
        keeps("k9", new int[] {10, 10, 10, 10, 10, 9, 8, 7, 6, 5});
        keeps("k4", "9876543210");
        keeps("w0", "5433333333");
        keeps("l3", "8765432100");
        keeps("b3", "8642000000");
        keeps("b9", new int[] {10, 10, 10, 8, 6, 4, 2, 0, 0, 0});
        keeps("m0", "7654333333");
        keeps("m9", new int[] {10, 10, 10, 10, 10, 10, 10, 9, 8, 7});
        VowDoves x = Due.towerOf("k0,w1;00");
        Due.due("keeps(2, 0)", x.keeps(2, 0), VowDoves.UNKNOWN);
        Due.due("keeps(-1, 10)", x.keeps(-1, 10), VowDoves.UNKNOWN);
        Due.due("keeps(1, 10)", x.keeps(1, 10), VowDoves.OUTSIDE);
        Due.due("keeps(1, -1)", x.keeps(1, -1), VowDoves.OUTSIDE);
    }

    private static void keeps(String keeper, String byHard) {
        int[] want = new int[10];
        for (int hard = 0; hard < 10; hard++) {
            want[hard] = byHard.charAt(hard) - '0';
        }
        keeps(keeper, want);
    }

    private static void keeps(String keeper, int[] byHard) {
        VowDoves x = Due.towerOf("k1," + keeper + ";00");
        for (int hard = 0; hard < 10; hard++) {
            Due.due(keeper + " keeps(1, " + hard + ")", x.keeps(1, hard), byHard[hard]);
        }
    }

    private static void holes() {
        VowDoves x = Due.towerOf("k3,b4;907");
        int[] hard = {9, 0, 7};
        for (int h = 0; h < 3; h++) {
            Due.due("hole(" + h + ", 0)", x.hole(h, 0), hard[h]);
            Due.due("hole(" + h + ", 1)", x.hole(h, 1), VowDoves.NONE);
            Due.due("hole(" + h + ", 2)", x.hole(h, 2), 0);
            Due.due("hole(" + h + ", 3)", x.hole(h, 3), 0);
            Due.due("hole(" + h + ", 4)", x.hole(h, 4), VowDoves.NONE);
        }
        x.let(1, 1);
        x.let(2, 0);
        x.year(6);
        Due.due("hole(1, 1)", x.hole(1, 1), 1);
        Due.due("hole(1, 2)", x.hole(1, 2), 1);
        Due.due("hole(1, 3)", x.hole(1, 3), 1);
        Due.due("hole(1, 4)", x.hole(1, 4), 9);
        Due.due("hole(2, 4)", x.hole(2, 4), 1);
        x.year(4);
        Due.due("broken: hole(1, 1)", x.hole(1, 1), VowDoves.NONE);
        Due.due("broken: hole(1, 2)", x.hole(1, 2), 2);
        Due.due("broken: hole(1, 3)", x.hole(1, 3), 0);
        Due.due("broken: hole(1, 4)", x.hole(1, 4), VowDoves.NONE);
        Due.due("hole(3, 0)", x.hole(3, 0), VowDoves.UNKNOWN);
        Due.due("hole(-1, 5)", x.hole(-1, 5), VowDoves.UNKNOWN);
        Due.due("hole(0, 5)", x.hole(0, 5), VowDoves.OUTSIDE);
        Due.due("hole(0, -1)", x.hole(0, -1), VowDoves.OUTSIDE);
    }
}
