/** How the class is used: a level is fed, begun, asked and played. README.md shows this file and what it prints. */
public final class Example {
    private static final String FARM = "level hurry 50;"
        + "danger rain every 2 from 1; danger frost every 3 from 2;"
        + "maker abe grave lasts 3 thinks rain; maker bea hasty lasts 9 thinks rain, frost;"
        + "good egg worth 10 fears rain, frost; good hat worth 5 fears rain;"
        + "in egg abe; unsure abe frost; befell egg year 2";

    public static void main(String[] args) {
        BasketKeep x = new BasketKeep();
        System.out.println("goods: " + begin(x, FARM));
        System.out.println("lost within 2 years, as bits: " + x.lost(2));
        System.out.println("egg is lost within " + x.lostIn(0) + " years, by danger " + x.lostBy(0));
        System.out.println("left behind 2 years: " + x.worthIn(2) + ", at best " + x.lay(2));
        System.out.println("abe should think besides of, as bits: " + x.besides(0, 2));
        System.out.println("egg is safe for a year by " + x.odds(0, 1, false) + " of " + x.odds(0, 1, true));
        System.out.println("sets of unsure thoughts that fit: " + x.fits());

        System.out.println("abe thinks of, as bits: " + x.think(0, 1));
        System.out.println("a year goes by, lost in it, as bits: " + x.year());
        System.out.println("mended: " + x.mend(1) + ", trouble " + x.trouble());
        System.out.println("undone: " + x.undo() + ", trouble " + x.trouble() + ", worth " + x.worth());
        System.out.println("there is no good 7: " + x.lostIn(7) + ", trouble " + x.trouble());
        System.out.println("61 years are too many: " + x.worthIn(61) + ", trouble " + x.trouble());

        System.out.println("a text with a fault: " + begin(x, "level hurry 101") + ", trouble " + x.trouble());
        System.out.println("fault " + x.fault() + " at byte " + x.where() + ", and the level stays: worth " + x.worth());
    }

    /** Feeds the text, twenty bytes at a time, blanks behind its end, and begins it. */
    private static int begin(BasketKeep x, String text) {
        for (int i = 0; i < text.length(); i += 20) {
            x.feed(four(text, i), four(text, i + 4), four(text, i + 8), four(text, i + 12), four(text, i + 16));
        }
        return x.level(text.length());
    }

    /** Four bytes of the text as one number, the first of them the highest. */
    private static int four(String text, int at) {
        int number = 0;
        for (int i = at; i < at + 4; i++) {
            number = number << 8 | (i < text.length() ? text.charAt(i) : ' ');
        }
        return number;
    }
}
