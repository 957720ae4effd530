import java.util.NoSuchElementException;
import java.util.function.Supplier;

/** For tests of single sentences: levels to stand on, calls that are taken, and calls that are refused and change nothing. */
final class Bounds {
    /** The document's own numbers, written once more, so that a test doesn't borrow the class's. */
    static final int NO_SUCH = 1;
    static final int NUMBER = 2;
    static final int NO_ROOM = 3;
    static final int FAULT = 4;
    static final int NOT_SO = 5;
    static final int NOTHING = 6;

    /** One danger that strikes each year, one maker, one good in his basket, which lasts for two. */
    static final String SMALL = "level hurry 0;danger d every 1 from 1;maker m grave lasts 2 thinks d;good g worth 9 fears d;in g m";

    /** Some of each sort, but fewer than there is room for: egg (0) in abe's (0), hat (2) in cal's (2), pear (1) in none. */
    static final String FARM = "level hurry 50;danger rain every 2 from 1;danger frost every 3 from 2;"
        + "danger wasp every 4 from 4;danger rot every 9 from 30;maker abe grave lasts 3 thinks rain, wasp;"
        + "maker bea hasty lasts 9 thinks rain, frost;maker cal happy lasts 5 thinks frost, wasp, rot;"
        + "good egg worth 10 fears rain, frost;good pear worth 7 fears wasp;good hat worth 5 fears rain;"
        + "in egg abe;in hat cal;unsure abe frost;unsure cal rain;befell egg year 2;befell hat year 1";

    /** As many of each sort as there is room for. Danger i strikes first in year 23 + i; nothing is lost before year 23. */
    static final String WIDE = wide();

    private Bounds() {
    }

    private static String wide() {
        StringBuilder text = new StringBuilder("level hurry 100");
        for (int d = 0; d < 8; d++) {
            text.append(";danger ").append((char) ('a' + d)).append(" every 9 from ").append(23 + d);
        }
        text.append(";maker p grave lasts 30 thinks a,b,c,d,e,f,g,h;maker q hasty lasts 29 thinks a,h;maker r happy lasts 28 thinks b;");
        text.append("maker s grave lasts 27 thinks c;maker t hasty lasts 1 thinks d,e");
        text.append(";good u worth 99 fears a,b,c,d,e,f,g,h;good v worth 1 fears h;good w worth 50 fears b;good x worth 7 fears d");
        text.append(";in u p;in v q;in w r;in x s;unsure p a;unsure q b;unsure r c;unsure s d");
        return text.append(";befell u year 23;befell v year 30;befell w year 24;befell x year 26").toString();
    }

    interface Call {
        long on(BasketKeep x);
    }

    static BasketKeep none() {
        return new BasketKeep();
    }

    static BasketKeep small() {
        return Check.of(SMALL);
    }

    static BasketKeep farm() {
        return Check.of(FARM);
    }

    static BasketKeep wide0() {
        return Check.of(WIDE);
    }

    /** The farm with something to undo, two images, the hat lost, and bytes on the tape. */
    static BasketKeep used() {
        BasketKeep x = Check.of(FARM);
        x.image();
        x.year();
        x.image();
        x.think(1, 2);
        x.put(1, 1);
        x.feed(1, 2, 3, 4, 5);
        return x;
    }

    static BasketKeep of(String text, int years) {
        BasketKeep x = Check.of(text);
        for (int i = 0; i < years; i++) {
            x.year();
        }
        return x;
    }

    static long one(boolean so) {
        return so ? 1 : 0;
    }

    /** -7 stands for the exception. */
    static int led(BasketKeep x, int i) {
        try {
            return x.led(i);
        } catch (NoSuchElementException e) {
            return -7;
        }
    }

    /** All that can be seen of what the level tells and what acts change, but for fault and trouble. */
    static String shown(BasketKeep x) {
        StringBuilder all = new StringBuilder("sizes");
        for (int what = 0; what <= 10; what++) {
            all.append(' ').append(x.size(what));
        }
        for (int what = 0; what <= 3; what++) {
            for (int d = 0; d < x.size(1); d++) {
                all.append(" d").append(x.danger(d, what));
            }
            for (int m = 0; m < x.size(2); m++) {
                all.append(" m").append(x.maker(m, what));
            }
            for (int g = 0; g < x.size(3); g++) {
                all.append(" g").append(x.good(g, what));
            }
        }
        return all.append(" worth ").append(x.worth()).append(" fits ").append(x.fits()).toString();
    }

    /** The call on a new object of that sort answers so, and wasn't refused. */
    static void takes(String sentence, Supplier<BasketKeep> made, Call call, long due) {
        BasketKeep x = made.get();
        setTrouble(x, NO_SUCH);
        Check.same(sentence, call.on(x), due);
        Check.same(sentence + ": trouble", x.trouble(), 0);
        Check.same(sentence + ": where", x.where(), BasketKeep.NONE);
    }

    /** As takes, where only it matters that the call isn't refused, and that it tells without doing anything. */
    static void tells(String sentence, Supplier<BasketKeep> made, Call call, long refusal) {
        BasketKeep x = made.get();
        String before = shown(x);
        setTrouble(x, NO_SUCH);
        Check.same(sentence + ": refused", call.on(x) == refusal, false);
        Check.same(sentence + ": trouble", x.trouble(), 0);
        Check.same(sentence + ": changes " + before, shown(x).equals(before), true);
    }

    static void refuses(String sentence, Supplier<BasketKeep> made, Call call, int trouble) {
        refuses(sentence, made, call, BasketKeep.NONE, trouble);
    }

    /** The call answers so, tells that trouble, and nothing is otherwise behind it. */
    static void refuses(String sentence, Supplier<BasketKeep> made, Call call, long answer, int trouble) {
        BasketKeep x = made.get();
        String before = shown(x);
        setTrouble(x, trouble == NUMBER ? NO_SUCH : NUMBER);
        Check.same(sentence, call.on(x), answer);
        Check.same(sentence + ": trouble", x.trouble(), trouble);
        Check.same(sentence + ": where", x.where(), BasketKeep.NONE);
        Check.same(sentence + ": changes " + before, shown(x).equals(before), true);
    }

    /** An older trouble of another number, so that it can't stand in for the call's own. */
    static void setTrouble(BasketKeep x, int number) {
        if (number == NUMBER) {
            x.level(-1);
        } else {
            x.danger(-1, 0);
        }
        Check.same("trouble set", x.trouble(), number);
    }
}
