import java.util.Random;

/** Runs of calls drawn by a seed: the class answers as the model does, and refusals change nothing. */
public final class ModelTest {
    private static final int RUNS = 150;
    private static final int CALLS = 300;
    private static final int[] STRANGE = {-1, 5, 7, 10, 15, 61, 127, Integer.MIN_VALUE, Integer.MAX_VALUE};

    private final Random random;
    private final VowDoves x = new VowDoves();
    private final Model model = new Model();
    private final StringBuilder run = new StringBuilder();
    private long before;

    private ModelTest(int seed) {
        random = new Random(seed);
    }

    public static void main(String[] args) {
        for (int seed = 0; seed < RUNS; seed++) {
            new ModelTest(seed).go();
        }
        Due.end();
    }

    private void go() {
        // Some runs begin without a tower; most have one at once.
        if (random.nextInt(5) > 0) {
            writeTower();
        }
        for (int i = 0; i < CALLS; i++) {
            before = x.digest();
            long answer = call();
            long after = x.digest();
            if (answer <= -101 && answer >= -104) {
                Due.due(run + " refused, then digest()", after, before);
            }
            Due.due(run + " then digest()", after, model.digest());
        }
    }

    private int upTo(int most) {
        return random.nextInt(12) == 0 ? STRANGE[random.nextInt(STRANGE.length)] : random.nextInt(most + 1);
    }

    private long same(String call, long got, long want) {
        run.append(' ').append(call);
        if (run.length() > 400) {
            run.delete(0, 200);
        }
        Due.due(run.toString(), got, want);
        return got;
    }

    private String tower() {
        StringBuilder text = new StringBuilder();
        int keepers = 2 + random.nextInt(4);
        for (int k = 0; k < keepers; k++) {
            text.append(k == 0 ? "" : ",").append("kwlbm".charAt(random.nextInt(5))).append(random.nextInt(10));
        }
        text.append(';');
        int holes = 2 + random.nextInt(4);
        for (int h = 0; h < holes; h++) {
            text.append(random.nextInt(10));
        }
        return text.toString();
    }

    private long writeTower() {
        StringBuilder text = new StringBuilder(tower());
        if (random.nextInt(3) == 0) {
            text.setCharAt(random.nextInt(text.length()), "kwlbm,;0959x ".charAt(random.nextInt(13)));
        }
        if (random.nextInt(4) == 0) {
            text.append("9;,k".charAt(random.nextInt(4)));
        }
        same("blank()", x.blank(), model.blank());
        for (int i = 0; i < text.length(); i++) {
            char code = text.charAt(i);
            same("letter('" + code + "')", x.letter(code), model.letter(code));
            same("fault()", x.fault(), model.fault());
        }
        before = x.digest();
        return same("tower()", x.tower(), model.tower());
    }

    private long call() {
        switch (random.nextInt(40)) {
            case 0: return random.nextInt(3) == 0 ? writeTower() : same("fault()", x.fault(), model.fault());
            case 1: case 2: {
                int code = random.nextInt(3) == 0 ? upTo(126) : "kwlbm,;0123456789".charAt(random.nextInt(17));
                return same("letter(" + code + ")", x.letter(code), model.letter(code));
            }
            case 3: return same("tower()", x.tower(), model.tower());
            case 4: case 5: return askKeeper(upTo(4), upTo(6));
            case 6: return askAs(upTo(4), upTo(4));
            case 7: return askKeeps(upTo(4), upTo(9));
            case 8: return askHole(upTo(4), upTo(4));
            case 9: case 10: return askMatch(random.nextInt(3) == 0 ? upTo(16) : 10 + random.nextInt(5));
            case 11: return askOdds(random.nextInt(4), random.nextInt(3));
            case 12: case 13: return askCenturies(1 + upTo(59), upTo(Integer.MAX_VALUE - 1), upTo(2));
            case 14: case 15: case 16: case 17: return askSee(upTo(4), upTo(9), random.nextBoolean());
            case 18: return random.nextInt(3) == 0 ? same("forget()", x.forget(), model.forget()) : askCount();
            case 19: return same("image()", x.image(), model.image());
            case 20: return same("restore()", x.restore(), model.restore());
            case 21: case 22: return same("forgive()", x.forgive(), model.forgive());
            case 23: case 24: return askLeave(upTo(4));
            case 25: case 26: case 27: case 28: case 29: return askYear(upTo(31));
            case 30: return askYear(3);
            default: return askLet(upTo(4), upTo(4));
        }
    }

    private long askKeeper(int keeper, int what) {
        return same("keeper(" + keeper + ", " + what + ")", x.keeper(keeper, what), model.keeper(keeper, what));
    }

    private long askAs(int keeper, int kind) {
        return same("as(" + keeper + ", " + kind + ")", x.as(keeper, kind), model.as(keeper, kind));
    }

    private long askKeeps(int keeper, int hard) {
        return same("keeps(" + keeper + ", " + hard + ")", x.keeps(keeper, hard), model.keeps(keeper, hard));
    }

    private long askHole(int hole, int what) {
        return same("hole(" + hole + ", " + what + ")", x.hole(hole, what), model.hole(hole, what));
    }

    private long askMatch(int what) {
        return same("match(" + what + ")", x.match(what), model.match(what));
    }

    private long askOdds(int years, int what) {
        return same("odds(" + years + ", " + what + ")", x.odds(years, what), model.odds(years, what));
    }

    private long askCenturies(int years, int seed, int what) {
        return same("centuries(" + years + ", " + seed + ", " + what + ")",
            x.centuries(years, seed, what), model.centuries(years, seed, what));
    }

    private long askSee(int keeper, int hard, boolean kept) {
        return same("see(" + keeper + ", " + hard + ", " + kept + ")",
            x.see(keeper, hard, kept), model.see(keeper, hard, kept));
    }

    private long askCount() {
        int what = upTo(9);
        return same("count(" + what + ")", x.count(what), model.count(what));
    }

    private long askLeave(int hole) {
        return same("leave(" + hole + ")", x.leave(hole), model.leave(hole));
    }

    private long askYear(int kept) {
        return same("year(" + kept + ")", x.year(kept), model.year(kept));
    }

    private long askLet(int hole, int keeper) {
        return same("let(" + hole + ", " + keeper + ")", x.let(hole, keeper), model.let(hole, keeper));
    }
}
