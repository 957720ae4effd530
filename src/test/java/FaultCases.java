/** The FAULTS of a text, with their places: a ^ stands where the fault is, and is no part of the text. */
final class FaultCases {
    private static final String LEVEL = "level hurry 5;";
    private static final String D = LEVEL + "danger d every 2 from 3;";
    private static final String M = D + "maker m grave lasts 2 thinks d;";
    private static final String G = M + "good g worth 9 fears d";

    private FaultCases() {
    }

    static void all() {
        form();
        tokens();
        untold();
        again();
        bounds();
        many();
        lacks();
        sound();
        order();
    }

    private static void fault(int number, String marked) {
        int place = marked.indexOf('^');
        String text = marked.replace("^", "");
        BasketKeep x = new BasketKeep();
        Check.same("refused: " + marked, Check.tell(x, text), BasketKeep.NONE);
        Check.same("trouble: " + marked, x.trouble(), 4);
        Check.same("fault: " + marked, x.fault(), number);
        Check.same("where: " + marked, x.where(), place);
    }

    private static void fine(String text) {
        BasketKeep x = new BasketKeep();
        Check.same("goods of: " + text, Check.tell(x, text) > 0, true);
        Check.same("no fault: " + text, x.fault(), 0);
    }

    private static void form() {
        for (String marked : new String[] {"^", "  ^", "^hello", "^7", "^;", "^,", "level^", "level   ^", "level ^hury 5", "level hurry^",
            "level hurry ^five", "level hurry 5^", LEVEL + "^", LEVEL + "^;", LEVEL + "^hello", "level hurry 5 ^danger",
            LEVEL + "danger^", LEVEL + "danger ^5", LEVEL + "danger ^good", LEVEL + "danger d ^each", LEVEL + "danger d every ^from",
            LEVEL + "danger d every 2 ^for", LEVEL + "danger d every 2 from ^;", LEVEL + "danger d every 2 from 3 ^4",
            D + "maker m ^glad", D + "maker m grave ^last", D + "maker m grave lasts ^two", D + "maker m grave lasts 2 ^think",
            D + "maker m grave lasts 2 thinks^", D + "maker m grave lasts 2 thinks ^level", D + "maker m grave lasts 2 thinks d,^",
            D + "maker m grave lasts 2 thinks d ^d", D + "maker m grave lasts 2 thinks ^, d", M + "good g ^value",
            M + "good g worth ^x", M + "good g worth 9 ^fear", M + "good g worth 9 fears ^5", G + ";^", G + ",^", G + ";in ^5",
            G + ";in g ^in", G + ";in g^", G + ";in g m ^m", G + ";unsure ^unsure", G + ";unsure m^", G + ";befell g ^yeer", G + ";befell g year^",
            G + ";befell g year ^m", G + " ^x"}) {
            fault(marked.equals("level hurry 5^") ? 6 : 1, marked);
        }
    }

    private static void tokens() {
        fault(1, LEVEL + "danger ^abcdefghi every 2 from 3");
        fault(1, "level hurry ^0005");
        fault(1, "level hurry 5^.");
        fault(1, "level ^Hurry 5");
        fault(1, "level hurry 5;^" + (char) 9 + "danger");
        fault(1, "^" + (char) 225);
        fault(1, "level hurry ^-5");
        fault(1, "^{");
        fault(1, "^`");
        fault(1, "level hurry ^/");
        fault(1, "level hurry ^:");
    }

    private static void untold() {
        fault(2, D + "maker m grave lasts 2 thinks ^e");
        fault(2, D + "maker m grave lasts 2 thinks ^m");
        fault(2, M + "good g worth 9 fears ^m");
        fault(2, M + "good g worth 9 fears d, ^g");
        fault(2, G + ";in ^m m");
        fault(2, G + ";in g ^d");
        fault(2, G + ";in ^x m");
        fault(2, G + ";unsure ^g d");
        fault(2, G + ";unsure m ^g");
        fault(2, G + ";befell ^d year 1");
        fault(2, LEVEL + "maker m grave lasts 2 thinks ^d;danger d every 2 from 3");
    }

    private static void again() {
        fault(3, LEVEL + "^level hurry 5");
        fault(3, D + "danger ^d every 2 from 3");
        fault(3, D + "maker ^d grave");
        fault(3, M + "good ^m worth");
        fault(3, D + "maker m grave lasts 2 thinks d, ^d");
        fault(3, M + "good g worth 9 fears d, ^d");
        fault(3, G + ";in g m;in ^g m");
        fault(3, G + ";good h worth 1 fears d;in g m;in h ^m");
        fault(3, G + ";unsure m d;unsure m ^d");
        fault(3, G + ";befell g year 1;befell ^g year 1");
    }

    private static void bounds() {
        fault(4, "level hurry ^101");
        fault(4, LEVEL + "danger d every ^0 from 1");
        fault(4, LEVEL + "danger d every ^10 from 1");
        fault(4, LEVEL + "danger d every 1 from ^0");
        fault(4, LEVEL + "danger d every 1 from ^31");
        fault(4, D + "maker m happy lasts ^0 thinks d");
        fault(4, D + "maker m happy lasts ^31 thinks d");
        fault(4, M + "good g worth ^0 fears d");
        fault(4, M + "good g worth ^100 fears d");
        fault(4, G + ";befell g year ^0");
        fault(4, G + ";befell g year ^41");
        fault(4, G + ";befell g year ^999");
    }

    private static void many() {
        StringBuilder dangers = new StringBuilder("level hurry 5");
        for (char c = 'a'; c <= 'h'; c++) {
            dangers.append(";danger ").append(c).append(" every 9 from 30");
        }
        fault(5, dangers + ";^danger");
        StringBuilder makers = new StringBuilder(dangers);
        for (char c = 'i'; c <= 'm'; c++) {
            makers.append(";maker ").append(c).append(" grave lasts 30 thinks a");
        }
        fault(5, makers + "; ^maker i");
        StringBuilder goods = new StringBuilder(makers);
        for (char c = 'n'; c <= 'q'; c++) {
            goods.append(";good ").append(c).append(" worth 99 fears a");
        }
        fault(5, goods + ";^good 7");
        fine(goods.toString());
        String unsure = goods + ";unsure i a;unsure i b;unsure i c;unsure i d";
        fine(unsure);
        fault(5, unsure + ";^unsure");
        fine(goods + ";in n i;in o j;in p k;in q l");
        fault(3, goods + ";in n i;in o j;in p k;in q l;in ^n m");
        fine(goods + ";befell n year 40;befell o year 1;befell p year 2;befell q year 3");
        fault(3, goods + ";befell n year 40;befell o year 1;befell p year 2;befell q year 3;befell ^q year 3");
    }

    private static void lacks() {
        for (String line : new String[] {"danger", "maker", "good", "in", "unsure", "befell"}) {
            fault(6, " ^" + line + " 5");
        }
        fault(6, LEVEL + "danger d every 2 from 3^");
        fault(6, D + "maker m grave lasts 2 thinks d^");
        fault(6, D + "maker m grave lasts 2 thinks d  ^");
        fault(6, D + "good g worth 9 fears d^");
    }

    private static void sound() {
        fine(G);
        fine("  " + G + "  ");
        fine(G.replace(" ", "   ").replace(";", " ; "));
        fine(G.replace("hurry 5", "hurry5").replace("every 2 from 3", "every2from3"));
        fine(G.replace("hurry 5", "hurry 100").replace("every 2 from 3", "every 009 from 030"));
        fine(G.replace("worth 9", "worth 99").replace("lasts 2", "lasts 30") + ";befell g year 40");
        fine("level hurry 0;danger every every 1 from 1;maker grave hasty lasts 1 thinks every;good worth worth 1 fears every;"
            + "in worth grave;unsure grave every;befell worth year 1");
        fine("level hurry 0;danger abcdefgh every 1 from 1;maker abcdefgi happy lasts 1 thinks abcdefgh;good a worth 1 fears abcdefgh");
        fine("level hurry 0;danger a every 1 from 1;danger aa every 1 from 1;maker levels happy lasts 1 thinks aa,a;good inn worth 1 fears a");
    }

    /** The first from the left stands, whatever comes behind it. */
    private static void order() {
        fault(4, "level hurry ^101 .");
        fault(2, M + "good g worth 9 fears ^x .");
        fault(6, "^danger .");
        fault(3, D + "danger ^d .");
        fault(1, "level ^. 101");
        fault(4, LEVEL + "danger d every ^0 from 0");
    }
}
