import java.util.ArrayList;
import java.util.List;

/** Terms I and promises 2 to 5: each sentence that names a bound of THE TAPE, of TOKENS, of LINES, or a FAULT. */
public final class TextBoundsTest {
    private static final String LEVEL = "level hurry 7";
    private static final String D = LEVEL + ";danger d every 2 from 3";
    private static final String M = D + ";maker m grave lasts 2 thinks d";
    private static final String G = M + ";good g worth 9 fears d";
    private static final String[] RESERVED = {"level", "danger", "maker", "good", "in", "unsure", "befell"};
    private static final String[] OTHER_WORDS = {"hurry", "every", "from", "lasts", "thinks", "grave", "hasty", "happy", "worth", "fears", "year"};

    public static void main(String[] args) {
        feedTakesUpTo900();
        levelTakesUpToTheTape();
        levelRefusedByFault();
        faultAndWhere();
        blanksPartTokens();
        bytesThatBeginNoToken();
        wordsOfOneToEight();
        wholesOfOneToThree();
        signs();
        boundsOfWholes();
        roomForLines();
        listsOfUnlikeOnes();
        eachGoodAndMakerOnce();
        eachUnsureTwoOnce();
        eachBefellOnce();
        namesAreNoLineWords();
        namesToldOnce();
        namesOfTheirSort();
        levelAheadOfAll();
        formAtEachToken();
        endAtEachToken();
        lacksAtTheEnd();
        firstFromTheLeft();
        Check.end("TextBoundsTest");
    }

    private static void same(String what, long got, long due) {
        Check.same(what, got, due);
    }

    private static BasketKeep taken(String sentence, String text, int goods) {
        BasketKeep x = new BasketKeep();
        same(sentence + ", goods of: " + text, Check.tell(x, text), goods);
        same(sentence + ", trouble of: " + text, x.trouble(), 0);
        same(sentence + ", fault of: " + text, x.fault(), 0);
        same(sentence + ", where of: " + text, x.where(), BasketKeep.NONE);
        return x;
    }

    private static BasketKeep taken(String sentence, String text) {
        return taken(sentence, text, 1);
    }

    /** A ^ stands where the fault is. The level that stood before, with its acts and images, stands behind it. */
    private static void refused(String sentence, int fault, String marked) {
        String text = marked.replace("^", "");
        BasketKeep x = Bounds.of(Bounds.FARM, 1);
        x.image();
        String before = Bounds.shown(x);
        same(sentence + ", refused: " + marked, Check.tell(x, text), BasketKeep.NONE);
        same(sentence + ", trouble: " + marked, x.trouble(), Bounds.FAULT);
        same(sentence + ", fault: " + marked, x.fault(), fault);
        same(sentence + ", where: " + marked, x.where(), marked.indexOf('^'));
        Check.same(sentence + ", the level stays: " + marked, Bounds.shown(x).equals(before), true);
    }

    private static BasketKeep fed(int feeds) {
        BasketKeep x = new BasketKeep();
        for (int i = 1; i <= feeds; i++) {
            same("2 feed " + i, x.feed(0x20202020, 0x20202020, 0x20202020, 0x20202020, 0x20202020), 20 * i);
        }
        return x;
    }

    private static void feedTakesUpTo900() {
        same("2 nothing yet", fed(0).size(10), 0);
        BasketKeep x = fed(44);
        same("2 there is room for 900", x.feed(1, 2, 3, 4, 5), 900);
        same("2 all of it came", x.size(10), 900);
        Bounds.setTrouble(x, Bounds.NUMBER);
        same("2 there would be more than 900", x.feed(1, 2, 3, 4, 5), BasketKeep.NONE);
        same("2 none comes", x.size(10), 900);
        same("2 no number is told of it", x.trouble(), Bounds.NUMBER);
        same("2 nor ever again", x.feed(0, 0, 0, 0, 0), BasketKeep.NONE);
        x.level(0);
        same("2 room as before, it being empty", x.feed(0, 0, 0, 0, 0), 20);
        BasketKeep y = fed(0);
        same("2 twenty", y.feed(0x6c657665, 0x6c206875, 0x72727920, 0x35203b64, 0x616e6765), 20);
        same("2 of each number the highest first", y.level(15), BasketKeep.NONE);
        same("2 so that it ends behind the sign", y.fault() * 100 + y.where(), 115);
        BasketKeep z = fed(0);
        z.feed(0x6c657665, 0x6c206875, 0x72727920, 0x31303180, 0);
        z.level(15);
        same("2 the last of a number is its lowest", z.fault() * 100 + z.where(), 412);
        whatNoFeedChanged();
    }

    private static void whatNoFeedChanged() {
        String text = G + " ".repeat(900 - G.length() - 1) + ";";
        BasketKeep x = new BasketKeep();
        Check.feed(x, text);
        x.feed(0, 0, 0, 0, 0);
        same("2 the 900th byte is as it came", x.level(900), BasketKeep.NONE);
        same("2 it is a sign with nothing behind it", x.fault() * 1000 + x.where(), 1900);
        BasketKeep y = new BasketKeep();
        Check.feed(y, text);
        same("3 899 of 900", y.level(899), 1);
    }

    private static void levelTakesUpToTheTape() {
        for (int n : new int[] {-1, Integer.MIN_VALUE, 1, 20, Integer.MAX_VALUE}) {
            Bounds.refuses("3 of an empty tape " + n, Bounds::none, x -> x.level(n), Bounds.NUMBER);
        }
        for (int n : new int[] {-1, Integer.MIN_VALUE, 21, 900, 901, Integer.MAX_VALUE}) {
            Bounds.refuses("3 of twenty bytes, which stay, " + n, Bounds::used, x -> x.level(n), Bounds.NUMBER);
        }
        BasketKeep x = fed(45);
        same("3 all of 900", x.level(900) * 10 + x.trouble(), -6);
        same("3 they are blanks", x.fault() * 1000 + x.where(), 1900);
        same("3 it is empty then", x.size(10), 0);
        BasketKeep y = fed(45);
        Bounds.setTrouble(y, Bounds.NO_SUCH);
        same("3 one more than 900", y.level(901) * 10 + y.trouble(), -8);
        same("3 it stays", y.size(10), 900);
        BasketKeep z = fed(1);
        same("3 none of twenty", z.level(0) * 10 + z.trouble(), -6);
        same("3 the end of no bytes", z.fault() * 10 + z.where(), 10);
        same("3 empty behind none of them", z.size(10), 0);
        BasketKeep w = new BasketKeep();
        same("3 none of none", w.level(0) * 10 + w.trouble(), -6);
        BasketKeep v = new BasketKeep();
        Check.feed(v, G + ";in g m;");
        same("3 only the first n count", v.level(G.length()), 1);
        same("3 what stood behind them is gone, too", v.size(10) + v.size(4), 0);
        Check.feed(v, G);
        same("3 and the next begins anew", v.level(G.length()), 1);
        String year = G + ";befell g year 4";
        Check.feed(v, year + "1");
        same("3 a digit behind the first n", v.level(year.length()), 1);
        Check.feed(v, G + "d");
        same("3 a letter behind the first n", v.level(G.length()), 1);
        Check.feed(v, "level hurry 101");
        same("3 two digits of three", v.level(14) * 100 + v.fault() * 10 - v.where(), -54);
        same("3 the 1st byte alone", Check.tell(v, "l") * 100 + v.fault() * 10 + v.where(), -90);
    }

    private static void levelRefusedByFault() {
        BasketKeep x = Bounds.used();
        String before = Bounds.shown(x);
        same("3 a fault empties the tape", x.level(1) * 10 + x.size(10), -10);
        Check.same("3 nothing else", Bounds.shown(x).equals(before.replace(" 20 d", " 0 d")), true);
        Check.same("3 acts can be undone as before", x.undo() && x.undo() && x.undo(), true);
        same("3 up to the year", x.size(7) * 100 + x.size(8) * 10 + x.size(4), 2);
        Check.same("3 images stay", x.back(1) && x.size(7) == 1 && x.back(0) && x.size(7) == 0, true);
        BasketKeep y = Bounds.used();
        y.level(0);
        same("3 a level that is taken", Check.tell(y, Bounds.FARM), 3);
        same("3 no year gone by", y.size(7), 0);
        same("3 nothing to undo", y.size(8) * 10 + Bounds.one(y.undo()), 0);
        same("3 no images", y.size(9) * 10 + Bounds.one(y.back(0)), 0);
        Check.same("3 all as in a new object", Bounds.shown(y).equals(Bounds.shown(Bounds.farm())), true);
        BasketKeep z = new BasketKeep();
        Check.tell(z, "level");
        same("3 no level stays no level", z.worth() * 10 + z.trouble(), -9);
        taken("3 as many goods as there is room for", Bounds.WIDE, 4);
    }

    private static void faultAndWhere() {
        BasketKeep x = new BasketKeep();
        same("4 without a level()", x.fault(), 0);
        same("5 without a level()", x.where(), BasketKeep.NONE);
        x.level(1);
        same("4 refused by 2, without one before", x.fault(), 0);
        same("5 refused by 2, without one before", x.where(), BasketKeep.NONE);
        Check.tell(x, LEVEL);
        same("4 the fault", x.fault(), 6);
        same("5 its place", x.where(), LEVEL.length());
        x.fault();
        x.where();
        x.trouble();
        x.size(0);
        x.size(-1);
        Bounds.led(x, 0);
        x.feed(0, 0, 0, 0, 0);
        same("5 behind calls that may not be refused", x.where(), LEVEL.length());
        x.level(21);
        same("4 refused by 2: of the one before", x.fault(), 6);
        same("5 refused by 2", x.where(), BasketKeep.NONE);
        x.level(0);
        same("4 of the latest", x.fault(), 1);
        same("5 the place 0", x.where(), 0);
        Check.tell(x, G);
        same("4 without a fault", x.fault(), 0);
        same("5 without a fault", x.where(), BasketKeep.NONE);
        Check.tell(x, LEVEL);
        x.worth();
        same("4 behind another call", x.fault(), 6);
        same("5 behind another call that may be refused", x.where(), BasketKeep.NONE);
    }

    private static void blanksPartTokens() {
        taken("blanks mean nothing ahead and behind", "   " + G + "    ");
        taken("blanks mean nothing between tokens", G.replace(" ", "    ").replace(";", "  ;  "));
        taken("no blank where none is needed", "level hurry7;danger d every2from3;maker m grave lasts2thinks d;good g worth9fears d");
        taken("no blanks round a comma", D + ";danger e every 2 from 3;maker m grave lasts 2 thinks d,e;good g worth 9 fears e , d");
        taken("up to 900 of them", G + " ".repeat(900 - G.length()));
        taken("900 with the blanks ahead", " ".repeat(900 - G.length()) + G);
        refused("blanks part words", 1, "^le vel hurry 7");
        refused("blanks part words", 1, "level ^hur ry 7");
        refused("blanks part wholes", 1, "level hurry 7 ^7");
        refused("words that stand together are one", 1, "^levelhurry 7");
        refused("words that stand together are one", 1, "level ^hurryy 7");
    }

    private static void bytesThatBeginNoToken() {
        for (int b = 0; b < 256; b++) {
            char sign = (char) b;
            boolean token = sign >= 'a' && sign <= 'z' || sign >= '0' && sign <= '9' || sign == ';' || sign == ',';
            if (sign == '^') {
                continue;
            }
            if (sign != ' ') {
                refused("byte " + b + " ahead of all", 1, "^" + sign + " " + G);
            }
            if (sign == ' ') {
                taken("a blank behind all", G + sign);
            } else if (!token) {
                refused("byte " + b + " behind all", 1, G + "^" + sign);
                refused("byte " + b + " in a word", 1, LEVEL + ";danger d^" + sign + "d every 2 from 3");
                refused("byte " + b + " where a whole begins", 1, "level hurry ^" + sign + "7");
            }
        }
        BasketKeep x = new BasketKeep();
        same("the sign that marks places elsewhere", Check.tell(x, "^" + G) * 100 + x.fault() * 10 + x.where(), -90);
    }

    private static void wordsOfOneToEight() {
        taken("a word of 8 letters", "level hurry 7;danger abcdefgh every 2 from 3;maker abcdefgi grave lasts 2 thinks abcdefgh;good zyxwvuts worth 9 fears abcdefgh");
        taken("words alike in 7 letters of 8", "level hurry 7;danger aaaaaaaa every 2 from 3;maker aaaaaaab grave lasts 2 thinks aaaaaaaa;good baaaaaaa worth 9 fears aaaaaaaa");
        taken("a word of 1 letter, the first and the last", "level hurry 7;danger a every 2 from 3;maker z grave lasts 2 thinks a;good az worth 9 fears a");
        refused("a word of 9 letters", 1, LEVEL + ";danger ^abcdefghi every 2 from 3");
        refused("a word of 9 letters, the first 8 of which are told", 1,
            "level hurry 7;danger abcdefgh every 2 from 3;maker m grave lasts 2 thinks ^abcdefghi");
        refused("a word of 17 letters", 1, LEVEL + ";danger ^abcdefghabcdefgha every 2 from 3");
        refused("9 letters where a line begins", 1, LEVEL + ";^dangerous");
        refused("9 letters where a sign must stand", 1, LEVEL + " ^abcdefghi");
        refused("9 letters behind all", 1, G + " ^abcdefghi");
        refused("a capital letter", 1, LEVEL + ";danger ^D every 2 from 3");
        refused("a capital letter in a word", 1, LEVEL + ";danger d^D every 2 from 3");
    }

    private static void wholesOfOneToThree() {
        same("1 digit", taken("1 digit", G.replace("hurry 7", "hurry 5")).size(0), 5);
        same("2 digits", taken("2 digits", G.replace("hurry 7", "hurry 05")).size(0), 5);
        same("3 digits", taken("3 digits", G.replace("hurry 7", "hurry 005")).size(0), 5);
        same("3 digits, the most", taken("3 digits", G.replace("hurry 7", "hurry 100")).size(0), 100);
        refused("4 digits", 1, "level hurry ^0005");
        refused("4 digits, out of bounds, too", 1, "level hurry ^1000");
        refused("4 digits behind all", 1, G + " ^0009");
        refused("10 digits", 1, "level hurry ^4294967303");
        refused("20 digits", 1, "level hurry ^18446744073709551623");
        same("digits from 0 to 9", taken("digits", G.replace("every 2 from 3", "every 9 from 10")).danger(0, 0), 9);
    }

    private static void signs() {
        refused("a sign ahead", 1, "^;" + G);
        refused("a sign behind", 1, G + ";^");
        refused("a sign behind, then blanks", 1, G + ";  ^");
        refused("two signs", 1, LEVEL + ";^;danger d every 2 from 3");
        refused("a comma for a sign", 1, LEVEL + "^,danger d every 2 from 3");
        refused("a comma ahead of a list", 1, D + ";maker m grave lasts 2 thinks ^,d");
        refused("a comma behind a list", 1, D + ";maker m grave lasts 2 thinks d,^");
        refused("a comma behind a list, then a line", 1, D + ";maker m grave lasts 2 thinks d,^;good g");
        refused("two commas", 1, D + ";maker m grave lasts 2 thinks d,^,d");
        refused("no comma", 1, D + ";maker m grave lasts 2 thinks d ^d");
        refused("no bytes", 1, "^");
        refused("blanks alone", 1, "   ^");
    }

    private static void boundsOfWholes() {
        bounds("hurry", G.replace("hurry 7", "hurry %"), 0, 100, x -> x.size(0));
        bounds("every", G.replace("every 2", "every %"), 1, 9, x -> x.danger(0, 0));
        bounds("from", G.replace("from 3", "from %"), 1, 30, x -> x.danger(0, 1));
        bounds("lasts", G.replace("lasts 2", "lasts %"), 1, 30, x -> x.maker(0, 1));
        bounds("worth", G.replace("worth 9", "worth %"), 1, 99, x -> x.good(0, 0));
        bounds("befell", G + ";befell g year %", 1, 40, x -> -1);
        String always = G.replace("every 2 from 3", "every 1 from %").replace("worth 9", "worth 1") + ";befell g year %";
        for (int year : new int[] {1, 30}) {
            same("befell in the year told: " + year, taken("befell", always.replace("%", "" + year)).fits(), 1);
        }
        String late = "level hurry 0;danger d every 2 from 2;maker m grave lasts 19 thinks d;good g worth 9 fears d;in g m;befell g year ";
        same("befell in the 40th year", taken("befell", late + 40).fits(), 1);
        same("befell in the 39th year", taken("befell", late + 39).fits(), 0);
    }

    private static void bounds(String what, String text, int least, int most, Bounds.Call value) {
        for (int whole : new int[] {least, least + 1, most - 1, most}) {
            long got = value.on(taken(what + " " + whole, text.replace("%", "" + whole)));
            if (got >= 0) {
                same(what + " is as told", got, whole);
            }
        }
        for (int whole : new int[] {least - 1, most + 1, 999}) {
            refused(what + " " + whole, whole < 0 ? 1 : 4, text.replace("%", "^" + whole));
        }
        refused(what + " with zeros ahead", least == 0 ? 1 : 4, text.replace("%", least == 0 ? "^0000" : "^000"));
        refused(what + " without a whole", 1, text.replace("%", "^x"));
    }

    private static String lines(int dangers, int makers, int goods) {
        StringBuilder text = new StringBuilder(LEVEL);
        for (int i = 0; i < dangers; i++) {
            text.append(";danger d").append((char) ('a' + i)).append(" every 9 from 30");
        }
        for (int i = 0; i < makers; i++) {
            text.append(";maker m").append((char) ('a' + i)).append(" grave lasts 30 thinks da");
        }
        for (int i = 0; i < goods; i++) {
            text.append(";good g").append((char) ('a' + i)).append(" worth 99 fears da");
        }
        return text.toString();
    }

    private static void roomForLines() {
        same("8 dangers", taken("8 dangers", lines(8, 1, 1)).size(1), 8);
        same("5 makers", taken("5 makers", lines(1, 5, 1)).size(2), 5);
        same("4 goods", taken("4 goods", lines(1, 1, 4), 4).size(3), 4);
        String full = lines(8, 5, 4);
        String unsure = full + ";unsure ma da;unsure ma db;unsure mb da;unsure me dh";
        same("4 unsure thoughts", taken("4 unsure thoughts", unsure, 4).size(5), 4);
        for (String line : new String[] {"danger new every 1 from 1", "danger", "danger da", "danger 5", "danger ."}) {
            refused("a 9th danger", 5, full + ";^" + line);
        }
        for (String line : new String[] {"maker new grave lasts 1 thinks da", "maker", "maker ma", "maker ;", "maker danger"}) {
            refused("a 6th maker", 5, full + "; ^" + line);
        }
        for (String line : new String[] {"good new worth 1 fears da", "good", "good ga", "good ,", "good in"}) {
            refused("a 5th good", 5, full + " ;^" + line);
        }
        for (String line : new String[] {"unsure mb db", "unsure", "unsure ma da", "unsure ga", "unsure 1"}) {
            refused("a 5th unsure thought", 5, unsure + ";^" + line);
        }
        refused("a 9th danger, behind other lines", 5, lines(8, 1, 1) + ";^danger");
        refused("a 6th maker, there being one good", 5, lines(1, 5, 1) + ";^maker");
        refused("a 5th good, there being one maker", 5, lines(1, 1, 4) + ";^good");
        refused("a 9th danger, without a maker", 5, lines(8, 0, 0) + ";^danger da every 0");
    }

    private static void listsOfUnlikeOnes() {
        String eight = "da,db,dc,dd,de,df,dg,dh";
        String all = lines(8, 0, 0) + ";maker m grave lasts 2 thinks " + eight + ";good g worth 9 fears " + eight;
        BasketKeep x = taken("all dangers in one list", all);
        same("all of them", x.maker(0, 2) * 1000 + x.good(0, 1), 255255);
        same("a list of one", taken("a list of one", G).maker(0, 2), 1);
        for (String again : new String[] {"da", "dd", "dh"}) {
            refused("thinks of one twice", 3, lines(8, 0, 0) + ";maker m grave lasts 2 thinks " + eight + ",^" + again);
            refused("fears one twice", 3, lines(8, 1, 0) + ";good g worth 9 fears " + eight + ", ^" + again);
        }
        refused("the same twice running", 3, D + ";maker m grave lasts 2 thinks d,^d,d");
        taken("the same in two lists", G + ";maker n happy lasts 1 thinks d;good h worth 1 fears d", 2);
    }

    private static void eachGoodAndMakerOnce() {
        String two = G + ";maker n happy lasts 1 thinks d;good h worth 1 fears d";
        same("two goods in two baskets", taken("in", two + ";in g n;in h m", 2).size(4), 2);
        refused("a good that lies in one, the same", 3, two + ";in g m;in ^g m");
        refused("a good that lies in one, another", 3, two + ";in g m;in ^g n");
        refused("a maker in whose basket one lies", 3, two + ";in g m;in h ^m");
        BasketKeep x = taken("as many as there are goods", lines(1, 5, 4) + ";in ga me;in gb md;in gc mc;in gd mb", 4);
        same("as told", x.good(0, 2) * 1000 + x.good(1, 2) * 100 + x.good(2, 2) * 10 + x.good(3, 2), 4321);
        refused("one more line", 3, lines(1, 5, 4) + ";in ga me;in gb md;in gc mc;in gd mb;in ^ga ma");
        refused("one more good than baskets", 3, lines(1, 1, 2) + ";in ga ma;in gb ^ma");
    }

    private static void eachUnsureTwoOnce() {
        String two = G + ";danger e every 1 from 1;maker n happy lasts 1 thinks d";
        same("unlike twos", taken("unsure", two + ";unsure m d;unsure m e;unsure n d;unsure n e").size(5), 4);
        refused("the same two again", 3, two + ";unsure m d;unsure m ^d");
        refused("the same two again, others between", 3, two + ";unsure m d;unsure n d;unsure m e;unsure m ^d");
        refused("the last of four again", 5, two + ";unsure m d;unsure m e;unsure n d;unsure n e;^unsure n e");
    }

    private static void eachBefellOnce() {
        String two = G + ";good h worth 1 fears d";
        same("each once", taken("befell", two + ";befell h year 1;befell g year 1", 2).size(6), 2);
        refused("the same good again", 3, two + ";befell g year 1;befell ^g year 2");
        refused("the same good again, another between", 3, two + ";befell g year 1;befell h year 1;befell ^g year 1");
        same("as many as there are goods", taken("befell", lines(1, 1, 4) + ";befell ga year 1;befell gb year 2;befell gc year 3;befell gd year 4", 4).size(6), 4);
    }

    private static void namesAreNoLineWords() {
        for (String word : RESERVED) {
            refused("no danger's name: " + word, 1, LEVEL + ";danger ^" + word + " every 2 from 3");
            refused("no maker's name: " + word, 1, D + ";maker ^" + word + " grave lasts 2 thinks d");
            refused("no good's name: " + word, 1, M + ";good ^" + word + " worth 9 fears d");
            refused("not in a list: " + word, 1, D + ";maker m grave lasts 2 thinks d,^" + word);
            refused("not in a good's list: " + word, 1, M + ";good g worth 9 fears ^" + word);
            refused("no good in one: " + word, 1, G + ";in ^" + word + " m");
            refused("no maker it is in: " + word, 1, G + ";in g ^" + word);
            refused("no unsure maker: " + word, 1, G + ";unsure ^" + word + " d");
            refused("no unsure danger: " + word, 1, G + ";unsure m ^" + word);
            refused("no good it befell: " + word, 1, G + ";befell ^" + word + " year 1");
            taken("a name that begins so: " + word, G.replace("danger d", "danger " + word + "s").replace("thinks d", "thinks " + word + "s")
                .replace("fears d", "fears " + word + "s"));
        }
        for (String word : OTHER_WORDS) {
            String named = "level hurry 7;danger % every 2 from 3;maker m grave lasts 2 thinks %;good g worth 9 fears %;unsure m %";
            taken("a danger's name: " + word, named.replace("%", word));
            taken("a maker's name: " + word, (D + ";maker % grave lasts 2 thinks d;good g worth 9 fears d;in g %;unsure % d").replace("%", word));
            taken("a good's name: " + word, (M + ";good % worth 9 fears d;in % m;befell % year 1").replace("%", word));
        }
    }

    private static void namesToldOnce() {
        refused("a danger's by a danger", 3, D + ";danger ^d every 2 from 3");
        refused("a danger's by a maker", 3, D + ";maker ^d grave lasts 2 thinks d");
        refused("a danger's by a good", 3, M + ";good ^d worth 9 fears d");
        refused("a maker's by a danger", 3, M + ";danger ^m every 2 from 3");
        refused("a maker's by a maker", 3, M + ";maker ^m grave lasts 2 thinks d");
        refused("a maker's by a good", 3, M + ";good ^m worth 9 fears d");
        refused("a good's by a danger", 3, G + ";danger ^g every 2 from 3");
        refused("a good's by a maker", 3, G + ";maker ^g grave lasts 2 thinks d");
        refused("a good's by a good", 3, G + ";good ^g worth 9 fears d");
        refused("the first of all, by the last", 3, lines(8, 5, 3) + ";good ^da worth 1 fears db");
        taken("lines in another order", "level hurry 7;danger d every 2 from 3;good g worth 9 fears d;danger e every 1 from 1;"
            + "maker m grave lasts 2 thinks e;befell g year 1;unsure m d;in g m;good h worth 1 fears e", 2);
        taken("names told in a text before", G);
        BasketKeep x = new BasketKeep();
        same("the same names in the next text", Check.tell(x, G) * 10 + Check.tell(x, G), 11);
        Check.tell(x, M + ";danger x every 0");
        same("the same names behind a fault", Check.tell(x, G), 1);
    }

    private static void namesOfTheirSort() {
        String[][] places = {{"maker n grave lasts 2 thinks %", "d"}, {"maker n grave lasts 2 thinks e,%", "d"}, {"good h worth 9 fears %", "d"},
            {"good h worth 9 fears e, %", "d"}, {"in % m", "g"}, {"in g %", "m"}, {"unsure % d", "m"}, {"unsure m %", "d"}, {"befell % year 1", "g"}};
        String all = G + ";danger e every 1 from 1;";
        for (String[] place : places) {
            for (String name : new String[] {"d", "m", "g", "untold", "n", "h", "dd", "every"}) {
                if (name.equals(place[1])) {
                    int goods = place[0].startsWith("good") ? 2 : 1;
                    taken("of its sort", all + place[0].replace("%", name), goods);
                } else {
                    refused("untold, or of another sort", 2, all + place[0].replace("%", "^" + name));
                }
            }
        }
        refused("told behind its use", 2, LEVEL + ";maker m grave lasts 2 thinks ^d;danger d every 2 from 3");
        refused("told behind its use", 2, M + ";in ^g m;good g worth 9 fears d");
        refused("told in the text before alone", 2, G + ";in g ^abe");
        refused("both untold: the first", 2, G + ";in ^x y");
    }

    private static void levelAheadOfAll() {
        refused("a second level", 3, LEVEL + ";^level hurry 7");
        refused("a second level, at that word", 3, LEVEL + " ; ^level");
        refused("a second level behind all", 3, G + ";^level hurry 101");
        refused("a level within a line", 1, "level ^level hurry 7");
        for (String word : RESERVED) {
            if (!word.equals("level")) {
                refused("a line ahead of the level: " + word, 6, "^" + word);
                refused("a line ahead of the level, at its word: " + word, 6, "  ^" + word + " .");
                refused("a line ahead of the level, the level behind it: " + word, 6, "^" + word + " x;" + G);
            }
        }
    }

    private record Piece(String text, int place) {
    }

    private static final String LONG = "level hurry 7;danger d every 2 from 3;danger e every 1 from 1;maker m grave lasts 2 thinks d,e;"
        + "maker n hasty lasts 2 thinks e;maker o happy lasts 2 thinks d;good g worth 9 fears e,d;in g m;unsure m d;befell g year 1";

    private static List<Piece> pieces() {
        List<Piece> all = new ArrayList<>();
        int place = 0;
        for (String piece : LONG.split("(?<=[ ;,])|(?=[ ;,])")) {
            if (!piece.equals(" ")) {
                all.add(new Piece(piece, place));
            }
            place += piece.length();
        }
        return all;
    }

    /** In place of each token one with which no level goes on. */
    private static void formAtEachToken() {
        taken("as it is", LONG);
        for (Piece p : pieces()) {
            String ahead = LONG.substring(0, p.place) + " ^";
            String behind = " " + LONG.substring(p.place + p.text.length());
            refused("a byte that begins no token", 1, ahead + "." + behind);
            refused("a word too long", 1, ahead + "abcdefghi" + behind);
            refused("a whole too long", 1, ahead + "0001" + behind);
            if (!p.text.equals(";") && !p.text.equals(",")) {
                refused("a sign", 1, ahead + ";" + behind);
                refused("a comma", 1, ahead + "," + behind);
            }
            if (!p.text.matches("[0-9]+")) {
                refused("a whole", 1, ahead + "5" + behind);
            }
            boolean isName = p.text.matches("[demnog]");
            refused(isName ? "a word that is no name" : "another word", 1, ahead + (isName ? "in" : "x") + behind);
        }
        refused("a token more", 1, LONG + " ^1");
    }

    /** The end in place of each token: form, unless a line could end there; then what is told by then decides. */
    private static void endAtEachToken() {
        for (Piece p : pieces()) {
            String text = LONG.substring(0, p.place);
            boolean lineEnds = p.text.equals(";") || p.text.equals(",");
            boolean complete = text.contains("maker ") && text.contains("good ");
            if (lineEnds && complete) {
                taken("the end behind a line", text);
            } else {
                refused("the end: its place", lineEnds ? 6 : 1, text + "^");
                refused("the end, behind blanks: its place", lineEnds ? 6 : 1, text + "   ^");
            }
        }
    }

    private static void lacksAtTheEnd() {
        refused("no maker and no good", 6, LEVEL + "^");
        refused("no maker and no good, dangers", 6, lines(8, 0, 0) + "^");
        refused("no good", 6, M + "^");
        refused("no good, five makers", 6, lines(1, 5, 0) + "^");
        refused("no maker", 6, D + ";good g worth 9 fears d^");
        refused("no maker, four goods", 6, lines(1, 0, 4) + "^");
        refused("form ahead of lacks at one place", 1, M + ";^");
        taken("a maker and a good", G);
    }

    private static void firstFromTheLeft() {
        refused("bounds ahead of form", 4, "level hurry ^101 .");
        refused("bounds ahead of lacks", 4, "level hurry ^101");
        refused("untold ahead of bounds", 2, G + ";maker n grave lasts 2 thinks ^x;good h worth 0");
        refused("told again ahead of untold", 3, D + ";danger ^d every 2 from 3;maker m grave lasts 2 thinks x");
        refused("many ahead of told again", 5, lines(8, 0, 0) + ";^danger da");
        refused("lacks ahead of all", 6, "^danger level .");
        refused("form ahead of all", 1, "level ^. 101");
        refused("bounds of the first of two", 4, LEVEL + ";danger d every ^0 from 0");
        refused("told again, bounds behind it", 3, G + ";befell g year 1;befell ^g year 41");
        refused("bounds ahead of told again", 4, G + ";befell g year ^41;befell g year 1");
        refused("the good ahead of the maker", 3, G + ";in g m;in ^g m");
        refused("told again ahead of untold", 3, G + ";in g m;in ^g x");
        refused("untold ahead of told again", 2, G + ";in g m;in ^x m");
    }
}
