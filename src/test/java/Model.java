import java.math.BigInteger;
import java.util.ArrayList;
import java.util.Arrays;
import java.util.List;
import java.util.regex.Matcher;
import java.util.regex.Pattern;

/** The document once more, written another way and with the Java library, to be held against the class. */
final class Model {
    private static final int NONE = -1, UNKNOWN = -101, OUTSIDE = -102, STATE = -103, FULL = -104;
    private static final Pattern TOWER = Pattern.compile("(?:[kwlbm][0-9],){1,4}[kwlbm][0-9];[0-9]{2,5}");

    private static class Keeper {
        int faith;
        int broken;

        int keeps(int faith, int hard) {
            return Math.max(0, Math.min(10, faith + 5 - hard));
        }
    }

    private static class Widow extends Keeper {
        @Override
        int keeps(int faith, int hard) {
            return Math.max(3, super.keeps(faith, hard));
        }
    }

    private static class Lord extends Keeper {
    }

    private static class Boy extends Keeper {
        @Override
        int keeps(int faith, int hard) {
            return super.keeps(faith, hard + hard);
        }
    }

    private static class Monk extends Widow {
        @Override
        int keeps(int faith, int hard) {
            return super.keeps(faith + 2, hard);
        }
    }

    private static final List<Class<? extends Keeper>> KINDS =
        List.of(Keeper.class, Widow.class, Lord.class, Boy.class, Monk.class);

    private static final class Hole {
        int hard;
        Keeper of;
        boolean owl;
        int eggs;
    }

    private static final class Sight {
        final Keeper of;
        final int hard;
        final boolean kept;

        Sight(Keeper of, int hard, boolean kept) {
            this.of = of;
            this.hard = hard;
            this.kept = kept;
        }
    }

    private String page = "";
    private List<Keeper> keepers = new ArrayList<>();
    private List<Hole> holes = new ArrayList<>();
    private List<Sight> seen = new ArrayList<>();
    private int years;
    private int read;
    private List<Object> image;

    int letter(int code) {
        if (code < 1 || code > 126) {
            return OUTSIDE;
        }
        if (page.length() == 22) {
            return FULL;
        }
        page += (char) code;
        return page.length();
    }

    int blank() {
        int had = page.length();
        page = "";
        return had;
    }

    int fault() {
        for (int end = 1; end <= page.length(); end++) {
            Matcher matcher = TOWER.matcher(page.substring(0, end));
            if (!matcher.matches() && !matcher.hitEnd()) {
                return end - 1;
            }
        }
        return page.length();
    }

    int tower() {
        if (!TOWER.matcher(page).matches()) {
            return STATE;
        }
        String[] halves = page.split(";");
        keepers = new ArrayList<>();
        for (String text : halves[0].split(",")) {
            Keeper keeper = make(text.charAt(0));
            keeper.faith = text.charAt(1) - '0';
            keepers.add(keeper);
        }
        holes = new ArrayList<>();
        for (char digit : halves[1].toCharArray()) {
            Hole hole = new Hole();
            hole.hard = digit - '0';
            holes.add(hole);
        }
        seen = new ArrayList<>();
        years = 0;
        image = null;
        page = "";
        read++;
        return holes.size();
    }

    private static Keeper make(char letter) {
        switch (letter) {
            case 'w': return new Widow();
            case 'l': return new Lord();
            case 'b': return new Boy();
            case 'm': return new Monk();
            default: return new Keeper();
        }
    }

    private static boolean names(int number, List<?> things) {
        return number >= 0 && number < things.size();
    }

    int keeper(int number, int what) {
        if (!names(number, keepers)) {
            return UNKNOWN;
        }
        Keeper keeper = keepers.get(number);
        int bits = 0;
        int eggs = 0;
        for (Hole hole : holes) {
            if (hole.of == keeper) {
                bits += 1 << holes.indexOf(hole);
                eggs += hole.eggs;
            }
        }
        int[] tells = {KINDS.indexOf(keeper.getClass()), keeper.faith, bits, eggs, keeper.broken,
            faiths(keeper), likely(keeper)};
        return what < 0 || what >= tells.length ? OUTSIDE : tells[what];
    }

    private int faiths(Keeper keeper) {
        int bits = 0;
        for (int faith = 0; faith < 10; faith++) {
            boolean can = true;
            for (Sight sight : seen) {
                int kept = keeper.keeps(faith, sight.hard);
                if (sight.of == keeper && (sight.kept ? kept == 0 : kept == 10)) {
                    can = false;
                }
            }
            bits += can ? 1 << faith : 0;
        }
        return bits;
    }

    private int likely(Keeper keeper) {
        int best = NONE;
        BigInteger most = BigInteger.ZERO;
        for (int faith = 9; faith >= 0; faith--) {
            BigInteger chance = BigInteger.ONE;
            for (Sight sight : seen) {
                if (sight.of == keeper) {
                    int kept = keeper.keeps(faith, sight.hard);
                    chance = chance.multiply(BigInteger.valueOf(sight.kept ? kept : 10 - kept));
                }
            }
            if (chance.signum() > 0 && chance.compareTo(most) >= 0) {
                most = chance;
                best = faith;
            }
        }
        return best;
    }

    int as(int number, int kind) {
        if (!names(number, keepers)) {
            return UNKNOWN;
        }
        if (!names(kind, KINDS)) {
            return OUTSIDE;
        }
        return KINDS.get(kind).isInstance(keepers.get(number)) ? number : NONE;
    }

    int keeps(int number, int hard) {
        if (!names(number, keepers)) {
            return UNKNOWN;
        }
        return hard < 0 || hard > 9 ? OUTSIDE : keeps(keepers.get(number), hard);
    }

    private static int keeps(Keeper keeper, int hard) {
        return keeper.keeps(keeper.faith, hard);
    }

    int hole(int number, int what) {
        if (!names(number, holes)) {
            return UNKNOWN;
        }
        Hole hole = holes.get(number);
        int[] tells = {hole.hard, keepers.indexOf(hole.of), hole.owl ? 2 : hole.of != null ? 1 : 0, hole.eggs,
            hole.of == null ? NONE : keeps(hole.of, hole.hard)};
        return what < 0 || what >= tells.length ? OUTSIDE : tells[what];
    }

    private int has(Keeper keeper) {
        return (int) holes.stream().filter(hole -> hole.of == keeper).count();
    }

    int let(int hole, int keeper) {
        if (!names(hole, holes) || !names(keeper, keepers)) {
            return UNKNOWN;
        }
        Hole place = holes.get(hole);
        if (place.owl || place.of != null || has(keepers.get(keeper)) >= 2) {
            return STATE;
        }
        place.of = keepers.get(keeper);
        return has(place.of);
    }

    int leave(int hole) {
        if (!names(hole, holes)) {
            return UNKNOWN;
        }
        Hole place = holes.get(hole);
        if (place.of == null) {
            return STATE;
        }
        int eggs = place.eggs;
        place.of = null;
        place.eggs = 0;
        return eggs;
    }

    int year(int kept) {
        if (kept < 0 || kept >= Math.pow(2, holes.size())) {
            return OUTSIDE;
        }
        if (keepers.isEmpty()) {
            return STATE;
        }
        if (years + 1 == 100) {
            return FULL;
        }
        years++;
        int all = 0;
        for (int i = 0; i < holes.size(); i++) {
            Hole hole = holes.get(i);
            if (hole.of == null) {
                continue;
            }
            if (BigInteger.valueOf(kept).testBit(i)) {
                all++;
                hole.eggs += hole.of instanceof Lord ? 0 : 1;
            } else {
                hole.of.broken++;
                hole.of = null;
                hole.owl = true;
                hole.eggs = 0;
            }
        }
        return all;
    }

    int forgive() {
        int owls = count(3);
        holes.forEach(hole -> hole.owl = false);
        return owls;
    }

    long odds(int forYears, int what) {
        if (forYears != 1 && forYears != 2 || what != 0 && what != 1) {
            return OUTSIDE;
        }
        if (keepers.isEmpty()) {
            return STATE;
        }
        BigInteger above = BigInteger.ONE;
        BigInteger below = BigInteger.ONE;
        for (Hole hole : holes) {
            if (hole.of != null) {
                above = above.multiply(BigInteger.valueOf(keeps(hole.of, hole.hard)).pow(forYears));
                below = below.multiply(BigInteger.TEN.pow(forYears));
            }
        }
        BigInteger part = what == 0 ? above : below;
        return part.divide(above.gcd(below)).longValueExact();
    }

    int match(int what) {
        if (what != 0 && (what < 10 || what > 14)) {
            return OUTSIDE;
        }
        return keepers.isEmpty() ? STATE : matched()[what == 0 ? 5 : what - 10];
    }

    /** By trying all lettings: to whom holes 0 to 4 should be let, and how many are kept. */
    private int[] matched() {
        int choices = keepers.size() + 1;
        int all = (int) Math.pow(choices, holes.size());
        int[] best = null;
        for (int number = 0; number < all; number++) {
            int[] tried = {NONE, NONE, NONE, NONE, NONE, 0};
            int left = number;
            // The last hole is the lowest digit, so that numbers go up in the document's order.
            for (int i = holes.size() - 1; i >= 0; i--) {
                tried[i] = left % choices - 1;
                left /= choices;
            }
            if (weigh(tried) && (best == null || tried[5] > best[5])) {
                best = tried;
            }
        }
        return best;
    }

    private boolean weigh(int[] tried) {
        int[] has = new int[keepers.size()];
        for (int k = 0; k < has.length; k++) {
            has[k] = has(keepers.get(k));
        }
        for (int i = 0; i < holes.size(); i++) {
            if (tried[i] == NONE) {
                continue;
            }
            Hole hole = holes.get(i);
            if (hole.of != null || hole.owl || ++has[tried[i]] > 2) {
                return false;
            }
            tried[5] += keeps(keepers.get(tried[i]), hole.hard);
        }
        return true;
    }

    int see(int keeper, int hard, boolean kept) {
        if (!names(keeper, keepers)) {
            return UNKNOWN;
        }
        if (hard < 0 || hard > 9) {
            return OUTSIDE;
        }
        if (seen.size() == 8) {
            return FULL;
        }
        seen.add(new Sight(keepers.get(keeper), hard, kept));
        return seen.size();
    }

    int forget() {
        int was = seen.size();
        seen = new ArrayList<>();
        return was;
    }

    int centuries(int forYears, int seed, int what) {
        if (forYears < 1 || forYears > 60 || seed < 0 || what < 0 || what > 2) {
            return OUTSIDE;
        }
        if (keepers.isEmpty()) {
            return STATE;
        }
        List<Object> before = snapshot();
        int broken = 0;
        BigInteger drawn = BigInteger.valueOf(seed);
        for (int year = 0; year < forYears; year++) {
            for (Hole hole : holes) {
                if (hole.of == null) {
                    continue;
                }
                drawn = drawn.multiply(BigInteger.valueOf(1103515245)).add(BigInteger.valueOf(12345))
                    .mod(BigInteger.ONE.shiftLeft(31));
                int draw = drawn.shiftRight(16).mod(BigInteger.TEN).intValueExact();
                boolean kept = draw < keeps(hole.of, hole.hard);
                broken += kept ? 0 : 1;
                hole.eggs = !kept ? 0 : hole.of instanceof Lord ? hole.eggs : hole.eggs + 1;
            }
        }
        int[] tells = {broken, count(4), drawn.intValueExact()};
        takeUp(before);
        return tells[what];
    }

    private List<Object> snapshot() {
        List<Object> all = new ArrayList<>();
        all.add(years);
        all.add(new ArrayList<>(seen));
        for (Keeper keeper : keepers) {
            all.add(keeper.broken);
        }
        for (Hole hole : holes) {
            all.addAll(Arrays.asList(hole.of, hole.owl, hole.eggs));
        }
        return all;
    }

    @SuppressWarnings("unchecked")
    private void takeUp(List<Object> all) {
        int at = 0;
        years = (Integer) all.get(at++);
        seen = new ArrayList<>((List<Sight>) all.get(at++));
        for (Keeper keeper : keepers) {
            keeper.broken = (Integer) all.get(at++);
        }
        for (Hole hole : holes) {
            hole.of = (Keeper) all.get(at++);
            hole.owl = (Boolean) all.get(at++);
            hole.eggs = (Integer) all.get(at++);
        }
    }

    int image() {
        if (keepers.isEmpty()) {
            return STATE;
        }
        image = snapshot();
        return years;
    }

    int restore() {
        if (image == null) {
            return STATE;
        }
        takeUp(image);
        return years;
    }

    int count(int what) {
        int let = 0;
        int owls = 0;
        int eggs = 0;
        for (Hole hole : holes) {
            let += hole.of != null ? 1 : 0;
            owls += hole.owl ? 1 : 0;
            eggs += hole.eggs;
        }
        int broken = keepers.stream().mapToInt(keeper -> keeper.broken).sum();
        int[] tells = {keepers.size(), holes.size(), let, owls, eggs, broken, years, seen.size(), page.length(), read};
        return what < 0 || what >= tells.length ? OUTSIDE : tells[what];
    }

    long digest() {
        List<Long> numbers = new ArrayList<>();
        for (int k = 0; k < keepers.size(); k++) {
            for (int what = 0; what < 7; what++) {
                numbers.add((long) keeper(k, what));
            }
            for (int hard : new int[] {0, 5, 9}) {
                numbers.add((long) keeps(k, hard));
            }
        }
        for (int h = 0; h < holes.size(); h++) {
            for (int what = 0; what < 5; what++) {
                numbers.add((long) hole(h, what));
            }
        }
        if (!keepers.isEmpty()) {
            numbers.add(odds(2, 0));
            numbers.add(odds(2, 1));
            int[] matched = matched();
            for (int i : new int[] {5, 0, 1, 2, 3, 4}) {
                numbers.add((long) matched[i]);
            }
        }
        page.chars().forEach(code -> numbers.add((long) code));
        for (int what = 0; what < 10; what++) {
            numbers.add((long) count(what));
        }
        long h = 1063;
        for (long number : numbers) {
            h = h * 31 + number;
        }
        return h;
    }
}
