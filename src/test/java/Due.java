import java.util.function.LongSupplier;

/** What the project's tests share: answers that are due, and towers written letter by letter. */
final class Due {
    private static int wrong = 0;
    private static int asked = 0;

    private Due() {
    }

    static void due(String call, long got, long want) {
        asked++;
        if (got != want) {
            wrong++;
            System.out.println(call + " answered " + got + ", due is " + want);
        }
    }

    /** The call is refused so, and the digest is what it was. */
    static void refused(VowDoves doves, String call, LongSupplier asked, int want) {
        long before = doves.digest();
        due(call, asked.getAsLong(), want);
        due("digest behind the refused " + call, doves.digest(), before);
    }

    static void write(VowDoves doves, String text) {
        for (int i = 0; i < text.length(); i++) {
            doves.letter(text.charAt(i));
        }
    }

    static VowDoves towerOf(String text) {
        VowDoves doves = new VowDoves();
        write(doves, text);
        due("tower() of " + text, doves.tower(), text.length() - text.indexOf(';') - 1);
        return doves;
    }

    static void end() {
        System.out.println(wrong == 0 ? asked + " answers are as due" : wrong + " of " + asked + " answers are not as due");
        if (wrong != 0) {
            System.exit(1);
        }
    }
}
