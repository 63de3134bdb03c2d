import java.util.function.LongSupplier;

/** Counts the answers that are not the ones that are due, and ends a test with code 1 if there was one. */
final class Due {
    private static int wrong = 0;
    private static int asked = 0;
    private static String heading = "";

    private Due() {
    }

    static void is(String call, long got, long want) {
        asked++;
        if (got != want) {
            wrong++;
            System.out.println(heading + call + " answered " + got + ", due is " + want);
        }
    }

    /** What stands ahead of each wrong answer from now on. */
    static void under(String name) {
        heading = name + ": ";
    }

    /** A refused call answers so, and all that digest() tells is as it was. */
    static void refused(HermitsSpoon x, String call, LongSupplier refused, long want) {
        long before = x.digest();
        is(call, refused.getAsLong(), want);
        is(call + " changes nothing: digest()", x.digest(), before);
    }

    static void that(String what, boolean holds) {
        is(what, holds ? 1 : 0, 1);
    }

    static void end() {
        System.out.println(wrong == 0 ? asked + " answers are as due" : wrong + " of " + asked + " answers are not as due");
        if (wrong != 0) {
            System.exit(1);
        }
    }

    /** A text as letters() takes it: up to eight, the first in the lowest byte. */
    static long packed(String text) {
        long w = 0;
        for (int i = text.length() - 1; i >= 0; i--) {
            w = w << 8 | text.charAt(i);
        }
        return w;
    }

    static void write(HermitsSpoon x, String text) {
        for (int i = 0; i < text.length(); i += 8) {
            x.letters(packed(text.substring(i, Math.min(i + 8, text.length()))));
        }
    }

    static int vow(HermitsSpoon x, String text) {
        x.blank();
        write(x, text);
        return x.vow();
    }

    static void soup(HermitsSpoon x, int... layers) {
        for (int i = 0; i < layers.length; i++) {
            x.soup(i, layers[i]);
        }
    }

    static void day(HermitsSpoon x, int vow, int seat, int fasts, int... told) {
        for (int what = 0; what < told.length; what++) {
            is("day(" + vow + ", " + seat + ", " + fasts + ", " + what + ")", x.day(vow, seat, fasts, what), told[what]);
        }
    }

    static void meals(HermitsSpoon x, int vow, int seat, int fasts, int... meals) {
        for (int h = 0; h < meals.length; h++) {
            is("meal(" + vow + ", " + seat + ", " + fasts + ", " + h + ")", x.meal(vow, seat, fasts, h), meals[h]);
        }
    }

    static void bite(HermitsSpoon x, int vow, int seat, int fasts, int k, int... told) {
        for (int what = 0; what < told.length; what++) {
            is("bite(" + vow + ", " + seat + ", " + fasts + ", " + k + ", " + what + ")",
                    x.bite(vow, seat, fasts, k, what), told[what]);
        }
    }

    static void schism(HermitsSpoon x, int seat, int turns, int left, int... meals) {
        is("schism(" + seat + ", 10)", x.schism(seat, 10), turns);
        is("schism(" + seat + ", 11)", x.schism(seat, 11), left);
        for (int h = 0; h < meals.length; h++) {
            is("schism(" + seat + ", " + h + ")", x.schism(seat, h), meals[h]);
        }
    }
}
