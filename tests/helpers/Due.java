/** Compares answers with those that are due, and tells those that are not. */
final class Due {
    private static int wrong = 0;
    private static int checked = 0;

    private Due() {
    }

    static void is(String what, long got, long want) {
        checked++;
        if (got == want) return;
        wrong++;
        if (wrong <= 50) System.out.println(what + ": answered " + got + ", due is " + want);
    }

    /** Puts a text of any length on the pad, eight characters a call. */
    static void write(StandingPayments x, String text) {
        for (int at = 0; at < text.length(); at += 8) {
            x.put(packed(text.substring(at, Math.min(at + 8, text.length()))));
        }
    }

    /** A text of up to eight characters as put() wants it. */
    static long packed(String text) {
        long characters = 0;
        for (int i = 0; i < text.length(); i++) characters = characters << 8 | text.charAt(i);
        return characters;
    }

    static void end() {
        System.out.println(wrong == 0 ? checked + " answers are as due" : wrong + " answers are not as due");
        if (wrong != 0) System.exit(1);
    }
}
