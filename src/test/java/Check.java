import java.util.function.LongSupplier;

/** What the tests share: comparing answers, counting wrong ones, and telling a text to an object. */
final class Check {
    private static int wrong = 0;
    private static int made = 0;

    private Check() {
    }

    static void same(String what, long got, long due) {
        made++;
        if (got != due) {
            wrong++;
            if (wrong <= 40) {
                System.out.println(what + ": answered " + got + ", due is " + due);
            }
        }
    }

    static void same(String what, boolean got, boolean due) {
        same(what, got ? 1 : 0, due ? 1 : 0);
    }

    /** An answer that is no refusal: the trouble must be 0 behind it. */
    static void fine(BasketKeep x, String what, long got, long due) {
        same(what, got, due);
        same(what + " trouble", x.trouble(), 0);
    }

    /** A refused call, with its number; the call is made here, so that an older trouble can't stand in for its own. */
    static void refused(BasketKeep x, String what, LongSupplier call, int trouble) {
        refused(x, what, call, BasketKeep.NONE, trouble);
    }

    static void refused(BasketKeep x, String what, LongSupplier call, long due, int trouble) {
        same(what, call.getAsLong(), due);
        same(what + " trouble", x.trouble(), trouble);
    }

    static int wrongSoFar() {
        return wrong;
    }

    /** Feeds a text, filled up with blanks to whole feeds. */
    static void feed(BasketKeep x, String text) {
        byte[] bytes = new byte[(text.length() + 19) / 20 * 20];
        for (int i = 0; i < bytes.length; i++) {
            bytes[i] = (byte) (i < text.length() ? text.charAt(i) : ' ');
        }
        for (int i = 0; i < bytes.length; i += 20) {
            x.feed(word(bytes, i), word(bytes, i + 4), word(bytes, i + 8), word(bytes, i + 12), word(bytes, i + 16));
        }
    }

    private static int word(byte[] bytes, int at) {
        return (bytes[at] & 255) << 24 | (bytes[at + 1] & 255) << 16 | (bytes[at + 2] & 255) << 8 | bytes[at + 3] & 255;
    }

    static int tell(BasketKeep x, String text) {
        feed(x, text);
        return x.level(text.length());
    }

    static BasketKeep of(String text) {
        BasketKeep x = new BasketKeep();
        if (tell(x, text) < 0) {
            same("fault " + x.fault() + " at " + x.where() + " in: " + text, 1, 0);
        }
        return x;
    }

    static void end(String name) {
        System.out.println(name + ": " + made + " answers, " + wrong + " not as due");
        if (wrong != 0) {
            System.exit(1);
        }
    }
}
