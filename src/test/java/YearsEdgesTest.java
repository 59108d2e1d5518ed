/** Promises 10 to 15 and the terms they rest on: a test for each sentence that names a boundary. */
public final class YearsEdgesTest {
    private static final int LEAST = Integer.MIN_VALUE;
    private static final int MOST = Integer.MAX_VALUE;

    public static void main(String[] args) {
        letUnknown();
        letOfALetHole();
        letOfAnOwlsHole();
        letToOneWhoHasTwo();
        letUnknownIsToldAheadOfState();
        letFillsAllHoles();
        leaveUnknown();
        leaveOfAHoleThatIsNotLet();
        leaveWithNoEggsAndWithMost();
        leaveMakesRoom();
        yearBitsTooSmall();
        yearBitsTooLarge();
        yearWithoutATower();
        yearWithNothingLet();
        yearAllKeptAndAllBroken();
        yearOfALord();
        year100();
        yearOutsideIsToldAheadOfFull();
        yearsGoOnBehindYear99();
        forgiveWithoutATower();
        forgiveWithNoOwl();
        forgiveAllOwls();
        oddsYearsOutside();
        oddsWhatOutside();
        oddsWithoutATower();
        oddsOfNoneLet();
        oddsOfNever();
        oddsOfAlways();
        oddsInLowestTerms();
        oddsOfFiveHolesAreLongs();
        matchOutside();
        matchWithoutATower();
        matchOfNoVacantHole();
        matchOfKeepersWhoHaveTwo();
        matchOfMoreHolesThanAllMayHave();
        matchOfHolesThatAreNone();
        matchOfVowsNeverKept();
        matchOfLikeOnes();
        matchChangesNothing();
        Due.end();
    }

    // ---- promise 10

    private static void letUnknown() {
        VowDoves x = Due.towerOf("k5,w5,l5;5555");
        for (int hole : new int[] {LEAST, -1, 4, 5, MOST}) {
            Due.refused(x, "10: let(" + hole + ", 0)", () -> x.let(hole, 0), VowDoves.UNKNOWN);
        }
        for (int keeper : new int[] {LEAST, -1, 3, 4, 5, MOST}) {
            Due.refused(x, "10: let(0, " + keeper + ")", () -> x.let(0, keeper), VowDoves.UNKNOWN);
        }
        Due.refused(x, "10: let(4, 3)", () -> x.let(4, 3), VowDoves.UNKNOWN);
        Due.due("10: the last hole to the last one", x.let(3, 2), 1);
    }

    private static void letOfALetHole() {
        VowDoves x = Due.towerOf("k5,w5;55");
        x.let(0, 0);
        Due.refused(x, "10: let to another one", () -> x.let(0, 1), VowDoves.STATE);
        Due.refused(x, "10: let to the same one", () -> x.let(0, 0), VowDoves.STATE);
        Due.due("10: it is still his", x.hole(0, 1), 0);
    }

    private static void letOfAnOwlsHole() {
        VowDoves x = Due.towerOf("k5,w5;55");
        x.let(0, 0);
        x.year(0);
        Due.refused(x, "10: an owl is in it", () -> x.let(0, 0), VowDoves.STATE);
        Due.refused(x, "10: to another one too", () -> x.let(0, 1), VowDoves.STATE);
        x.forgive();
        Due.due("10: it is forgiven", x.let(0, 1), 1);
    }

    private static void letToOneWhoHasTwo() {
        VowDoves x = Due.towerOf("k5,w5;55555");
        Due.due("10: one", x.let(0, 1), 1);
        Due.due("10: two", x.let(4, 1), 2);
        Due.refused(x, "10: no third", () -> x.let(2, 1), VowDoves.STATE);
        // An owl's hole is his no more, so that he may have another one at once.
        x.year(1);
        Due.due("10: two again", x.let(2, 1), 2);
        Due.refused(x, "10: no third then", () -> x.let(1, 1), VowDoves.STATE);
    }

    private static void letUnknownIsToldAheadOfState() {
        VowDoves x = Due.towerOf("k5,w5;555");
        x.let(0, 0);
        x.let(1, 0);
        Due.refused(x, "10: no such hole, he has two", () -> x.let(3, 0), VowDoves.UNKNOWN);
        Due.refused(x, "10: it is let, no such keeper", () -> x.let(0, 2), VowDoves.UNKNOWN);
        Due.refused(x, "10: it is let, and he has two", () -> x.let(0, 0), VowDoves.STATE);
    }

    private static void letFillsAllHoles() {
        VowDoves x = Due.towerOf("k5,w5,l5;55555");
        for (int hole = 0; hole < 5; hole++) {
            Due.due("10: let " + hole, x.let(hole, hole / 2), hole % 2 + 1);
        }
        Due.due("10: all are let", x.count(2), 5);
        for (int hole = 0; hole < 5; hole++) {
            int place = hole;
            Due.refused(x, "10: let " + hole + " again", () -> x.let(place, 2), VowDoves.STATE);
        }
    }

    // ---- promise 11

    private static void leaveUnknown() {
        VowDoves x = Due.towerOf("k5,w5;555");
        x.let(2, 0);
        for (int hole : new int[] {LEAST, -1, 3, 4, 5, MOST}) {
            Due.refused(x, "11: leave(" + hole + ")", () -> x.leave(hole), VowDoves.UNKNOWN);
        }
        Due.due("11: leave(2)", x.leave(2), 0);
    }

    private static void leaveOfAHoleThatIsNotLet() {
        VowDoves x = Due.towerOf("k5,w5;55");
        Due.refused(x, "11: it is vacant", () -> x.leave(0), VowDoves.STATE);
        x.let(0, 0);
        x.year(0);
        Due.refused(x, "11: an owl is in it", () -> x.leave(0), VowDoves.STATE);
        Due.due("11: the owl is still there", x.hole(0, 2), 2);
        x.forgive();
        x.let(0, 0);
        x.leave(0);
        Due.refused(x, "11: it is left", () -> x.leave(0), VowDoves.STATE);
    }

    private static void leaveWithNoEggsAndWithMost() {
        VowDoves x = Due.towerOf("k5,w5;55");
        x.let(0, 0);
        Due.due("11: no eggs", x.leave(0), 0);
        x.let(0, 0);
        x.let(1, 1);
        for (int year = 1; year <= 99; year++) {
            x.year(3);
        }
        Due.due("11: 99 eggs", x.leave(0), 99);
        Due.due("11: these are gone", x.hole(0, 3), 0);
        Due.due("11: those of the other one are not", x.count(4), 99);
        x.let(0, 1);
        Due.due("11: nor are there any when it is let again", x.hole(0, 3), 0);
    }

    private static void leaveMakesRoom() {
        VowDoves x = Due.towerOf("k5,w5;555");
        x.let(0, 0);
        x.let(1, 0);
        Due.due("11: leave(0)", x.leave(0), 0);
        Due.due("11: he may have another one", x.let(2, 0), 2);
        Due.due("11: it was not broken", x.keeper(0, 4), 0);
        Due.due("11: no owl came", x.count(3), 0);
    }

    // ---- promise 12

    private static final String[] BY_HOLES = {"k5,w5;55", "k5,w5;555", "k5,w5;5555", "k5,w5;55555"};

    private static void yearBitsTooSmall() {
        for (String text : BY_HOLES) {
            VowDoves x = Due.towerOf(text);
            x.let(0, 0);
            for (int kept : new int[] {-1, -2, LEAST, LEAST + 1}) {
                Due.refused(x, "12: year(" + kept + ") of " + text, () -> x.year(kept), VowDoves.OUTSIDE);
            }
            Due.due("12: year(0) of " + text, x.year(0), 0);
            Due.due("12: it is broken", x.hole(0, 2), 2);
        }
    }

    private static void yearBitsTooLarge() {
        for (String text : BY_HOLES) {
            VowDoves x = Due.towerOf(text);
            int holes = x.count(1);
            x.let(holes - 1, 0);
            for (int kept : new int[] {1 << holes, (1 << holes) + 1, 1 << 30, MOST}) {
                Due.refused(x, "12: year(" + kept + ") of " + text, () -> x.year(kept), VowDoves.OUTSIDE);
            }
            Due.due("12: all bits of " + text, x.year((1 << holes) - 1), 1);
            Due.due("12: the last bit of " + text, x.year(1 << (holes - 1)), 1);
        }
    }

    private static void yearWithoutATower() {
        VowDoves x = new VowDoves();
        Due.refused(x, "12: year(0)", () -> x.year(0), VowDoves.STATE);
        // There are no holes whose bits these could be, and OUTSIDE is told first.
        for (int kept : new int[] {1, 2, 3, 4, 8, 16, 31, 32, 1 << 30, MOST, -1, LEAST}) {
            Due.refused(x, "12: no tower, year(" + kept + ")", () -> x.year(kept), VowDoves.OUTSIDE);
        }
        // A tower that is written but not read has no holes yet.
        Due.write(x, "k5,w5;55");
        Due.refused(x, "12: not read, year(0)", () -> x.year(0), VowDoves.STATE);
        Due.refused(x, "12: not read, year(3)", () -> x.year(3), VowDoves.OUTSIDE);
        x.tower();
        Due.due("12: read, year(3)", x.year(3), 0);
    }

    private static void yearWithNothingLet() {
        VowDoves x = Due.towerOf("k5,w5;555");
        Due.due("12: year(0)", x.year(0), 0);
        Due.due("12: bits of vacant holes", x.year(7), 0);
        Due.due("12: no eggs", x.count(4), 0);
        Due.due("12: no owls", x.count(3), 0);
        Due.due("12: but years", x.count(6), 2);
        x.let(1, 0);
        x.year(0);
        Due.due("12: the bit of an owl's hole", x.year(2), 0);
        Due.due("12: it has no egg", x.hole(1, 3), 0);
        Due.due("12: it is broken but once", x.keeper(0, 4), 1);
    }

    private static VowDoves allLet() {
        VowDoves x = Due.towerOf("k5,w5,m5;55555");
        for (int hole = 0; hole < 5; hole++) {
            x.let(hole, hole / 2);
        }
        return x;
    }

    private static void yearAllKeptAndAllBroken() {
        VowDoves x = allLet();
        Due.due("12: all kept", x.year(31), 5);
        Due.due("12: eggs", x.count(4), 5);
        Due.due("12: all broken", x.year(0), 0);
        Due.due("12: no eggs", x.count(4), 0);
        Due.due("12: owls", x.count(3), 5);
        Due.due("12: let", x.count(2), 0);
        for (int hole = 0; hole < 5; hole++) {
            VowDoves y = allLet();
            Due.due("12: just hole " + hole, y.year(1 << hole), 1);
            Due.due("12: he has it", y.keeper(hole / 2, 2), 1 << hole);
            Due.due("12: its egg", y.hole(hole, 3), 1);
            Due.due("12: the others'", y.count(5), 4);
        }
    }

    private static void yearOfALord() {
        VowDoves x = Due.towerOf("l5,m5;55");
        x.let(0, 0);
        x.let(1, 1);
        for (int year = 1; year <= 3; year++) {
            Due.due("12: both are kept", x.year(3), 2);
        }
        Due.due("12: the lord has eaten all", x.hole(0, 3), 0);
        Due.due("12: the monk has not", x.hole(1, 3), 3);
        x.leave(1);
        x.let(1, 0);
        x.year(3);
        Due.due("12: nor is there one in the hole he takes over", x.hole(1, 3), 0);
    }

    private static VowDoves year99() {
        VowDoves x = Due.towerOf("k5,w5;55");
        x.let(0, 0);
        for (int year = 1; year <= 98; year++) {
            x.year(1);
        }
        Due.due("12: year 99", x.year(1), 1);
        return x;
    }

    private static void year100() {
        VowDoves x = year99();
        Due.refused(x, "12: year 100", () -> x.year(1), VowDoves.FULL);
        Due.refused(x, "12: year 100, broken", () -> x.year(0), VowDoves.FULL);
        Due.due("12: years", x.count(6), 99);
        Due.due("12: eggs", x.hole(0, 3), 99);
    }

    private static void yearOutsideIsToldAheadOfFull() {
        VowDoves x = year99();
        Due.refused(x, "12: year(4)", () -> x.year(4), VowDoves.OUTSIDE);
        Due.refused(x, "12: year(-1)", () -> x.year(-1), VowDoves.OUTSIDE);
        Due.refused(x, "12: year(3)", () -> x.year(3), VowDoves.FULL);
    }

    private static void yearsGoOnBehindYear99() {
        VowDoves x = Due.towerOf("k5,w5;55");
        x.year(0);
        x.image();
        for (int year = 2; year <= 99; year++) {
            x.year(0);
        }
        Due.refused(x, "12: year 100", () -> x.year(0), VowDoves.FULL);
        Due.due("12: back in year 1", x.restore(), 1);
        Due.due("12: year 2", x.year(0), 0);
        Due.due("12: years", x.count(6), 2);
        VowDoves y = year99();
        Due.write(y, "k5,w5;55");
        y.tower();
        Due.due("12: year 1 of another tower", y.year(0), 0);
        Due.due("12: its years", y.count(6), 1);
    }

    // ---- promise 13

    private static void forgiveWithoutATower() {
        VowDoves x = new VowDoves();
        long before = x.digest();
        Due.due("13: forgive()", x.forgive(), 0);
        Due.due("13: digest then", x.digest(), before);
    }

    private static void forgiveWithNoOwl() {
        VowDoves x = allLet();
        x.year(31);
        long before = x.digest();
        Due.due("13: forgive()", x.forgive(), 0);
        Due.due("13: digest then", x.digest(), before);
    }

    private static void forgiveAllOwls() {
        VowDoves x = allLet();
        x.year(0);
        Due.due("13: five owls", x.forgive(), 5);
        Due.due("13: none is left", x.forgive(), 0);
        Due.due("13: what was broken stays", x.count(5), 5);
        for (int hole = 0; hole < 5; hole++) {
            Due.due("13: no bird in " + hole, x.hole(hole, 2), 0);
        }
        VowDoves y = allLet();
        y.year(14);
        Due.due("13: the first and the last", y.forgive(), 2);
        Due.due("13: doves stay", y.count(2), 3);
        Due.due("13: and their eggs", y.count(4), 3);
    }

    // ---- promise 14

    private static void oddsYearsOutside() {
        VowDoves x = allLet();
        for (int years : new int[] {LEAST, -1, 0, 3, 4, MOST}) {
            for (int what = 0; what <= 1; what++) {
                int asked = what;
                Due.refused(x, "14: odds(" + years + ", " + what + ")", () -> x.odds(years, asked), VowDoves.OUTSIDE);
            }
        }
    }

    private static void oddsWhatOutside() {
        VowDoves x = allLet();
        for (int what : new int[] {LEAST, -1, 2, 3, MOST}) {
            Due.refused(x, "14: odds(1, " + what + ")", () -> x.odds(1, what), VowDoves.OUTSIDE);
            Due.refused(x, "14: odds(2, " + what + ")", () -> x.odds(2, what), VowDoves.OUTSIDE);
        }
    }

    private static void oddsWithoutATower() {
        VowDoves x = new VowDoves();
        for (int years = 1; years <= 2; years++) {
            for (int what = 0; what <= 1; what++) {
                Due.due("14: odds(" + years + ", " + what + ")", x.odds(years, what), VowDoves.STATE);
            }
        }
        Due.due("14: OUTSIDE is told first, of years", x.odds(0, 0), VowDoves.OUTSIDE);
        Due.due("14: OUTSIDE is told first, of what", x.odds(1, 2), VowDoves.OUTSIDE);
    }

    private static void oddsAre(VowDoves x, String when, long above, long below, long above2, long below2) {
        Due.due("14: " + when + ", odds(1, 0)", x.odds(1, 0), above);
        Due.due("14: " + when + ", odds(1, 1)", x.odds(1, 1), below);
        Due.due("14: " + when + ", odds(2, 0)", x.odds(2, 0), above2);
        Due.due("14: " + when + ", odds(2, 1)", x.odds(2, 1), below2);
    }

    private static void oddsOfNoneLet() {
        VowDoves x = Due.towerOf("k0,w5;95");
        oddsAre(x, "none was let", 1, 1, 1, 1);
        x.let(0, 0);
        x.year(0);
        oddsAre(x, "just an owl", 1, 1, 1, 1);
        x.forgive();
        oddsAre(x, "it is forgiven", 1, 1, 1, 1);
    }

    private static void oddsOfNever() {
        VowDoves x = Due.towerOf("k0,w9;95");
        x.let(0, 0);
        oddsAre(x, "one that is never kept", 0, 1, 0, 1);
        x.let(1, 1);
        oddsAre(x, "with one that is kept in 9", 0, 1, 0, 1);
    }

    private static void oddsOfAlways() {
        VowDoves x = Due.towerOf("k9,m9;00000");
        for (int hole = 0; hole < 4; hole++) {
            x.let(hole, hole / 2);
        }
        oddsAre(x, "always", 1, 1, 1, 1);
    }

    private static void oddsInLowestTerms() {
        VowDoves x = Due.towerOf("k5,k4;55");
        x.let(0, 0);
        oddsAre(x, "5 of 10", 1, 2, 1, 4);
        x.let(1, 1);
        oddsAre(x, "20 of 100", 1, 5, 1, 25);
        // 8 and 5 of 10 have no more in common with 100 than 20.
        VowDoves y = Due.towerOf("k8,k5;55");
        y.let(0, 0);
        y.let(1, 1);
        oddsAre(y, "40 of 100", 2, 5, 4, 25);
    }

    private static void oddsOfFiveHolesAreLongs() {
        VowDoves x = Due.towerOf("k3,k4,k9;11477");
        x.let(0, 0);
        x.let(1, 0);
        x.let(2, 2);
        x.let(3, 2);
        x.let(4, 1);
        // 7, 7, 10, 7 and 2 of ten: 6860 of 100000.
        oddsAre(x, "7 7 10 7 2", 343, 5000, 117649, 25000000);
        VowDoves y = Due.towerOf("k5,k5,k5;11133");
        for (int hole = 0; hole < 5; hole++) {
            y.let(hole, hole / 2);
        }
        // 9, 9, 9, 7 and 7 of ten.
        oddsAre(y, "9 9 9 7 7", 35721, 100000, 1275989841L, 10000000000L);
        VowDoves z = Due.towerOf("k5,k5,k5;11111");
        for (int hole = 0; hole < 5; hole++) {
            z.let(hole, hole / 2);
        }
        oddsAre(z, "9 9 9 9 9", 59049, 100000, 3486784401L, 10000000000L);
    }

    // ---- promise 15

    private static void matchIs(VowDoves x, String when, int... want) {
        Due.due("15: " + when + ", match(0)", x.match(0), want[0]);
        for (int hole = 0; hole < 5; hole++) {
            Due.due("15: " + when + ", match(" + (10 + hole) + ")", x.match(10 + hole), want[hole + 1]);
        }
    }

    private static void matchOutside() {
        VowDoves x = Due.towerOf("k5,w5;55");
        for (int what : new int[] {LEAST, -10, -1, 1, 2, 5, 8, 9, 15, 16, 20, MOST}) {
            Due.refused(x, "15: match(" + what + ")", () -> x.match(what), VowDoves.OUTSIDE);
        }
    }

    private static void matchWithoutATower() {
        VowDoves x = new VowDoves();
        for (int what : new int[] {0, 10, 11, 12, 13, 14}) {
            Due.due("15: match(" + what + ")", x.match(what), VowDoves.STATE);
        }
        for (int what : new int[] {-1, 1, 9, 15}) {
            Due.due("15: OUTSIDE is told first, match(" + what + ")", x.match(what), VowDoves.OUTSIDE);
        }
    }

    private static void matchOfNoVacantHole() {
        VowDoves x = allLet();
        matchIs(x, "all are let", 0, -1, -1, -1, -1, -1);
        x.year(0);
        matchIs(x, "all have owls", 0, -1, -1, -1, -1, -1);
        x.forgive();
        // The monk keeps such a vow in 7 of ten years, the other two in 5.
        matchIs(x, "all are forgiven", 29, 0, 0, 1, 2, 2);
    }

    private static void matchOfKeepersWhoHaveTwo() {
        VowDoves x = Due.towerOf("k5,k5;55555");
        x.let(0, 0);
        x.let(2, 0);
        matchIs(x, "one has two", 10, -1, -1, -1, 1, 1);
        x.let(4, 1);
        matchIs(x, "the other one has one", 5, -1, -1, -1, 1, -1);
        x.let(3, 1);
        matchIs(x, "both have two", 0, -1, -1, -1, -1, -1);
        // An owl's hole is nobody's: he may have another one, but not this.
        x.year(29);
        matchIs(x, "no bit of a vacant hole breaks", 0, -1, -1, -1, -1, -1);
        x.year(28);
        matchIs(x, "one has broken one", 5, -1, 0, -1, -1, -1);
    }

    private static void matchOfMoreHolesThanAllMayHave() {
        // 10 and 5 of the keeper, 3 and 3 of the widow; the first hole of the like ones goes to nobody.
        matchIs(Due.towerOf("k9,w0;09999"), "five holes for two", 21, 0, -1, 0, 1, 1);
        matchIs(Due.towerOf("w0,k9;99990"), "the other way round", 21, -1, 0, 0, 1, 1);
    }

    private static void matchOfHolesThatAreNone() {
        matchIs(Due.towerOf("k9,k9;00"), "two holes", 20, 0, 0, -1, -1, -1);
        matchIs(Due.towerOf("k9,k9;000"), "three holes", 30, 0, 0, 1, -1, -1);
        matchIs(Due.towerOf("k9,k9;0000"), "four holes", 40, 0, 0, 1, 1, -1);
        matchIs(Due.towerOf("k9,k9,k9;00000"), "five holes", 50, 0, 0, 1, 1, 2);
        matchIs(Due.towerOf("k9,k9;00000"), "five holes, two keepers", 40, -1, 0, 0, 1, 1);
    }

    private static void matchOfVowsNeverKept() {
        matchIs(Due.towerOf("k0,b0;99"), "nobody ahead of all", 0, -1, -1, -1, -1, -1);
        matchIs(Due.towerOf("k0,b0;95"), "0 of ten is no more than nobody", 0, -1, -1, -1, -1, -1);
        matchIs(Due.towerOf("k0,b0;94"), "1 of ten is more", 1, -1, 0, -1, -1, -1);
    }

    private static void matchOfLikeOnes() {
        matchIs(Due.towerOf("k5,k5,k5,k5,k5;55555"), "the first by numbers", 25, 0, 0, 1, 1, 2);
        matchIs(Due.towerOf("w0,k9,w0;595"), "of two widows the first", 21, 1, 0, 1, -1, -1);
        matchIs(Due.towerOf("l4,k4;555"), "kinds that keep alike", 12, 0, 0, 1, -1, -1);
    }

    private static void matchChangesNothing() {
        VowDoves x = allLet();
        x.leave(1);
        x.year(12);
        long before = x.digest();
        for (int what : new int[] {0, 10, 11, 12, 13, 14}) {
            x.match(what);
        }
        Due.due("15: digest then", x.digest(), before);
        Due.due("15: hole 1 is still vacant", x.hole(1, 2), 0);
        Due.due("15: let as it was", x.count(2), 2);
    }
}
