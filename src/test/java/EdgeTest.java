/** Terms II and III and the promises of years, baskets, thoughts and acts: each sentence that names an edge of a state. */
public final class EdgeTest {
    public static void main(String[] args) {
        strikesInYearFromAndEverySoManyAfter();
        graveHastyHappy();
        wornAtNone();
        orderWithinAYear();
        lostEverAfter();
        basketsThatLastAsTheyDo();
        goodsInNoBasket();
        bitsOfDangersMakersGoods();
        worthNow();
        strikesNextBehindNow();
        lostWithin60();
        wornWithin60();
        worstOfLikeOnes();
        stillWithin60();
        layIntoUnlikeBaskets();
        layWithLostOnes();
        worthIfItLayThere();
        nestOfFewest();
        besidesOfFewest();
        vainAndOpen();
        fitsOfUnsureThoughts();
        askAndJudge();
        hurryOfNoneAndAll();
        drawsByThoughts();
        yearsUpTo999();
        putIntoEmptyOnes();
        takeOut();
        thinkOfOneMoreOrNoMore();
        mendAsTold();
        undoSixteen();
        imagesOfAll();
        ledByNumbers();
        nothingIsLeftOver();
        Check.end("EdgeTest");
    }

    private static void same(String what, long got, long due) {
        Check.same(what, got, due);
    }

    private static String one(String danger, String maker, String good) {
        return "level hurry 0;danger d " + danger + ";maker m " + maker + " thinks d;good g " + good + " fears d";
    }

    private static void strikesInYearFromAndEverySoManyAfter() {
        int[][] levels = {{1, 1}, {1, 30}, {9, 1}, {9, 30}, {2, 7}};
        for (int[] two : levels) {
            String text = one("every " + two[0] + " from " + two[1], "grave lasts 1", "worth 1");
            BasketKeep x = Check.of(text);
            for (int year = 1; year <= 60; year++) {
                boolean due = year == two[1] || year > two[1] && (year - two[1]) % two[0] == 0;
                same("II strikes, every " + two[0] + " from " + two[1] + " in " + year, x.strikes(year), due ? 1 : 0);
            }
            same("II lost in year from", x.lostIn(0), two[1]);
            same("II not before", Bounds.of(text, two[1] - 1).good(0, 3), 0);
            same("II then", Bounds.of(text, two[1]).good(0, 3), 1);
        }
    }

    private static void graveHastyHappy() {
        String text = "level hurry 0;danger a every 1 from 9;danger b every 1 from 9;danger c every 1 from 9;maker m % lasts 9 thinks b;good g worth 1 fears a";
        int[][] thoughts = {{}, {0, 1}, {2}, {1, 0}, {0, 1, 2}};
        int[] all = {0, 3, 4, 3, 7};
        int[] butHighest = {0, 1, 0, 1, 3};
        for (int i = 0; i < thoughts.length; i++) {
            for (String kind : new String[] {"grave", "hasty", "happy"}) {
                BasketKeep x = Check.of(text.replace("%", kind));
                x.think(0, 1);
                for (int d : thoughts[i]) {
                    x.think(0, d);
                }
                int due = kind.equals("hasty") ? butHighest[i] : all[i];
                same("II " + kind + " keeps out in an even year", x.keepsOut(0, 2), due);
                same("II " + kind + " keeps out in an odd year", x.keepsOut(0, 3), kind.equals("happy") ? 0 : due);
            }
        }
        BasketKeep x = Bounds.of(text.replace("%", "happy"), 1);
        same("II even by the year's number, not by NOW", x.keepsOut(0, 2) * 10 + x.keepsOut(0, 1), 20);
        BasketKeep y = Check.of(one("every 1 from 1", "happy lasts 30", "worth 1") + ";in g m");
        same("II a happy one in year 1", y.lostIn(0), 1);
        BasketKeep z = Check.of(one("every 1 from 2", "happy lasts 30", "worth 1") + ";in g m");
        same("II a happy one in year 2, then in year 3", z.lostIn(0) * 10 + z.keptOut(60), 31);
        BasketKeep w = Check.of(one("every 2 from 2", "happy lasts 30", "worth 1") + ";in g m");
        same("II a happy one in even years alone", w.keptOut(60), 30);
    }

    private static void wornAtNone() {
        BasketKeep x = Check.of(one("every 1 from 1", "grave lasts 1", "worth 9") + ";in g m");
        same("II it lasts for one: keeps out", x.keepsOut(0, 1), 1);
        same("II one year", x.year(), 0);
        same("II for 0 it is worn", x.maker(0, 1) * 10 + x.wornIn(0), 0);
        same("II worn: nothing, in any year", x.keepsOut(0, 1) + x.keepsOut(0, 2) + x.keepsOut(0, 999), 0);
        same("II worn: it is lost", x.year(), 1);
        same("II never less than 0", x.maker(0, 1) + x.lastsIn(0, 60), 0);
        BasketKeep y = Check.of(one("every 1 from 1", "grave lasts 30", "worth 9") + ";in g m");
        same("II it lasts for thirty", y.wornIn(0) * 100 + y.lostIn(0), 3031);
        same("II nothing is lost by being worn", y.worthIn(30) * 10 + y.worthIn(31), 90);
    }

    private static void orderWithinAYear() {
        String two = "level hurry 0;danger a every 5 from 1;danger b every 5 from 1;maker m grave lasts 1 thinks %;good g worth 9 fears !;in g m";
        BasketKeep x = Check.of(two.replace("%", "b, a").replace("!", "b"));
        same("II danger by danger: worn by the first, lost by the second", x.lostBy(0) * 10 + x.lostIn(0), 11);
        same("II kept out once", x.keptOut(1) * 10 + x.wornIn(0), 11);
        BasketKeep y = Check.of(two.replace("%", "b, a").replace("!", "a"));
        same("II the first is kept out, the second not feared", y.lostBy(0) * 10 + y.lostIn(0), 6);
        BasketKeep z = Check.of(two.replace("%", "b").replace("!", "b, a"));
        same("II lost by the first of two", z.lostBy(0), 0);
        same("II the second wears it no more", z.lastsIn(0, 60) * 10 + z.keptOut(60), 10);
        BasketKeep w = Check.of(two.replace("%", "b").replace("!", "b"));
        same("II what isn't feared and isn't kept out does nothing", w.keptOut(1) * 10 + w.lostIn(0), 16);
        BasketKeep v = Check.of(two.replace("%", "a").replace("!", "b"));
        same("II what isn't feared is kept out, too", v.keptOut(1) * 10 + v.lastsIn(0, 1), 10);
    }

    private static void lostEverAfter() {
        BasketKeep x = Bounds.of(one("every 9 from 1", "grave lasts 1", "worth 9"), 1);
        same("II lost", x.good(0, 3) * 10 + x.worth(), 10);
        same("II later, too", Bounds.one(x.year() == 0 && x.year() == 0) * 10 + x.good(0, 3), 11);
        same("II it comes to be lost once", x.worst(60) * 10 + x.lost(60), -19);
        same("II in all years to come", x.worthIn(60) * 10 + x.lostIn(0), 0);
        BasketKeep y = Bounds.of(one("every 9 from 1", "hasty lasts 1", "worth 9") + ";in g m", 1);
        y.take(0);
        same("II taken out it is lost", y.good(0, 3), 1);
        Bounds.refuses("48 and can't be put", () -> lostAndOut(), z -> z.put(0, 0), Bounds.NOT_SO);
    }

    private static BasketKeep lostAndOut() {
        BasketKeep y = Bounds.of(one("every 9 from 1", "hasty lasts 1", "worth 9") + ";in g m", 1);
        y.take(0);
        return y;
    }

    private static void basketsThatLastAsTheyDo() {
        BasketKeep x = Check.of(one("every 1 from 1", "grave lasts 3", "worth 9"));
        same("II without a good", x.lastsIn(0, 60) * 10 - x.wornIn(0), 32);
        x.year();
        same("II without a good, by a year", x.maker(0, 1), 3);
        String two = "level hurry 0;danger a every 1 from 2;danger b every 1 from 1;maker m grave lasts 5 thinks b;good g worth 9 fears a;in g m";
        BasketKeep y = Check.of(two);
        same("II its good is lost: in that year, too", y.lastsIn(0, 1) * 100 + y.lastsIn(0, 2) * 10 + y.lastsIn(0, 60), 444);
        BasketKeep z = Bounds.of(two, 9);
        same("II its good is lost, by years", z.maker(0, 1) * 10 + z.maker(0, 3), 40);
        same("II nothing is kept out of it", z.keptOut(60) * 10 - z.wornIn(0), 2);
    }

    private static void goodsInNoBasket() {
        BasketKeep x = Check.of(one("every 1 from 2", "grave lasts 9", "worth 9"));
        same("II in none: nothing is kept out", x.keptOut(60) * 10 + x.lostIn(0), 2);
        x.put(0, 0);
        same("II in one", x.keptOut(2) * 100 + x.lostIn(0), 111);
        x.take(0);
        same("II taken out", x.keptOut(2) * 10 + x.lostIn(0), 2);
    }

    private static void bitsOfDangersMakersGoods() {
        BasketKeep x = Bounds.wide0();
        same("6 all that fear it", x.danger(7, 2), 3);
        same("6 all who think of it", x.danger(0, 3), 3);
        same("6 one who thinks of it", x.danger(5, 3), 1);
        x.think(0, 5);
        same("6 nobody NOW", x.danger(5, 3), 0);
        same("6 nobody fears it", Bounds.farm().danger(3, 2), 0);
        same("6 a lost one, too", Bounds.of(Bounds.FARM, 1).danger(0, 2), 5);
        same("7 thinks of all", x.maker(0, 2), 223);
        same("7 none lies there", x.maker(4, 3), -2);
        same("7 the last good", x.maker(3, 3), 3);
        same("7 a lost one lies there", Bounds.of(Bounds.FARM, 1).maker(2, 3), 2);
        same("8 fears all", x.good(0, 1), 255);
        same("8 in none", Bounds.farm().good(1, 2), -2);
        same("8 lost, it lies where it lay", Bounds.of(Bounds.FARM, 1).good(2, 2), 2);
        x.take(3);
        x.put(3, 4);
        same("7 8 the last of each", x.maker(4, 3) * 10 + x.good(3, 2), 34);
        same("7 he has none more", x.maker(3, 3), -2);
    }

    private static void worthNow() {
        String text = "level hurry 0;danger a every 9 from 1;maker m grave lasts 9 thinks a;good g worth 99 fears a;good h worth 1 fears a";
        Bounds.takes("11 before the first year", () -> Check.of(text), x -> x.worth(), 100);
        Bounds.takes("11 none is left", () -> Bounds.of(text, 1), x -> x.worth(), 0);
        Bounds.takes("11 of those that aren't lost", () -> Bounds.of(text + ";in h m", 1), x -> x.worth(), 1);
        Bounds.takes("11 as much as there can be", () -> Check.of(Bounds.WIDE.replaceAll("worth [0-9]+", "worth 99")), x -> x.worth(), 396);
        Bounds.takes("13 behind none: WORTH NOW", () -> Check.of(text), x -> x.worthIn(0), 100);
        Bounds.takes("13 behind one", () -> Check.of(text), x -> x.worthIn(1), 0);
    }

    private static void strikesNextBehindNow() {
        String text = one("every 3 from 2", "grave lasts 9", "worth 9");
        int[] due = {2, 2, 5, 5, 5, 8};
        for (int years = 0; years < due.length; years++) {
            same("12 behind " + years, Bounds.of(text, years).strikesNext(0), due[years]);
        }
        same("12 from 30", Bounds.of(one("every 9 from 30", "grave lasts 9", "worth 9"), 29).strikesNext(0), 30);
        same("12 behind 30", Bounds.of(one("every 9 from 30", "grave lasts 9", "worth 9"), 30).strikesNext(0), 39);
        same("12 each year", Bounds.of(one("every 1 from 1", "grave lasts 9", "worth 9"), 40).strikesNext(0), 41);
    }

    private static void lostWithin60() {
        String text = one("every 2 from 1", "grave lasts 30", "worth 9") + ";in g m";
        BasketKeep x = Check.of(text);
        same("15 in the 61st year: not within 60", x.lostIn(0), -2);
        same("16 in the 61st year: not within 60", x.lostBy(0), -2);
        same("14 nor by then", x.lost(60), 0);
        x.year();
        same("15 in the 60th year", x.lostIn(0), 60);
        same("16 in the 60th year", x.lostBy(0), 0);
        BasketKeep y = Check.of(one("every 9 from 1", "hasty lasts 30", "worth 9"));
        same("15 in the next year", y.lostIn(0) * 10 + y.lostBy(0), 10);
        y.year();
        same("15 it is", y.lostIn(0), 0);
        same("16 it is lost NOW", y.lostBy(0), -2);
        same("14 it is", y.lost(0), 1);
        same("13 it is", y.worthIn(0), 0);
    }

    private static void wornWithin60() {
        BasketKeep x = Check.of(one("every 2 from 3", "grave lasts 30", "worth 9") + ";in g m");
        same("17 in the 61st year: not within 60", x.wornIn(0), -2);
        same("18 it lasts for one yet", x.lastsIn(0, 60), 1);
        x.year();
        same("17 in the 60th year", x.wornIn(0), 60);
        same("18 none more", x.lastsIn(0, 60), 0);
        BasketKeep never = Check.of(one("every 2 from 3", "happy lasts 1", "worth 9") + ";in g m");
        same("17 it lasts for one, and its good is lost before", never.wornIn(0) * 10 + never.lostIn(0), -17);
        BasketKeep y = Check.of(one("every 1 from 1", "grave lasts 1", "worth 9") + ";in g m");
        same("17 in the next year", y.wornIn(0), 1);
        y.year();
        same("17 it is", y.wornIn(0), 0);
        y.take(0);
        same("17 it is, without a good", y.wornIn(0), 0);
        y.mend(0);
        same("17 mended, without a good", y.wornIn(0), -2);
    }

    private static void worstOfLikeOnes() {
        String text = "level hurry 0;danger a every 1 from 3;danger b every 1 from 1;danger c every 1 from 2;maker m grave lasts 9 thinks a;"
            + "good g worth % fears a;good h worth 5 fears b;good i worth 6 fears c;good j worth 3 fears b";
        BasketKeep x = Check.of(text.replace("%", "8"));
        same("21 within none", x.worst(0), -2);
        same("21 by one alone", x.worst(1), 1);
        same("21 two goods by one", x.worst(2), 1);
        same("21 of like ones the first", x.worst(3), 0);
        same("21 one less", Check.of(text.replace("%", "7")).worst(3), 1);
        same("21 one more", Check.of(text.replace("%", "9")).worst(3), 0);
        same("21 the least worth", Check.of(one("every 9 from 2", "hasty lasts 1", "worth 1")).worst(2), 0);
        x.year();
        same("21 what is lost NOW counts no more", x.worst(1), 2);
        x.year();
        x.year();
        same("21 none is", x.worst(60), -2);
    }

    private static void stillWithin60() {
        // Every year up to 60 is even, of 0 or 2 mod 3, of 3 mod 4, of 1 mod 8, 13 or 37; 61 is none of these.
        String text = "level hurry 0;danger a every 2 from 2;danger b every 3 from 3;danger c every 3 from 2;danger d every 4 from 3;"
            + "danger e every 8 from 1;danger f every 5 from 3;danger g every 5 from 2;maker m grave lasts 1 thinks a;good x worth 1 fears a";
        BasketKeep x = Check.of(text);
        same("22 the 61st: none", x.still(), -2);
        x.year();
        same("22 the 60th of the next", x.still(), 60);
        BasketKeep y = Check.of(one("every 2 from 2", "grave lasts 1", "worth 1"));
        same("22 the first of the next", y.still(), 1);
        y.year();
        same("22 the second of the next", y.still(), 2);
        same("22 none, as it strikes each year", Bounds.small().still(), -2);
    }

    private static String row(BasketKeep x, int n) {
        StringBuilder row = new StringBuilder();
        for (int g = 0; g < x.size(3); g++) {
            row.append(x.layAt(g, n)).append(' ');
        }
        return row.toString().trim();
    }

    private static void laid(String what, BasketKeep x, int n, int worth, String row) {
        Check.fine(x, what, x.lay(n), worth);
        Check.same(what + ": " + row(x, n) + ", due is " + row, row(x, n).equals(row), true);
        same(what + ": told", x.trouble(), 0);
    }

    private static void layIntoUnlikeBaskets() {
        String head = "level hurry 0;danger a every 1 from 1;danger b every 1 from 1;";
        String goods = "good g worth 5 fears a;good h worth 5 fears a;good i worth 5 fears a";
        String baskets = "maker m grave lasts 9 thinks a;maker n grave lasts 9 thinks a;";
        laid("23 three goods, two baskets: the first row, none ahead", Check.of(head + baskets + goods), 1, 10, "-2 0 1");
        laid("23 more worth ahead of the first row", Check.of(head + baskets + goods.replace("g worth 5", "g worth 6")), 1, 11, "0 -2 1");
        laid("23 nothing is left: in none", Check.of(head + baskets + goods), 10, 0, "-2 -2 -2");
        laid("23 just as long", Check.of(head + baskets + goods), 9, 10, "-2 0 1");
        laid("23 one basket", Check.of(head + "maker m grave lasts 9 thinks a;" + goods), 9, 5, "-2 -2 0");
        laid("23 where they lie is free", Check.of(head + baskets + goods + ";in g m;in h n"), 1, 10, "-2 0 1");
        laid("23 nothing is feared yet: in none", Check.of("level hurry 0;danger a every 1 from 9;" + baskets + goods), 8, 15, "-2 -2 -2");
        // u needs p's basket, and v, who fears h of year 30, p's, too; w, who fears b of year 24, r's or p's; x, who fears d, t's or p's.
        laid("23 as many goods as there is room for", Bounds.wide0(), 30, 99 + 50 + 7, "0 -2 2 4");
        BasketKeep x = Check.of(head + baskets + goods + ";in g m");
        x.lay(9);
        same("23 nothing is moved by it", x.good(0, 2) * 10 + x.size(8), 0);
    }

    private static void layWithLostOnes() {
        BasketKeep x = Bounds.of(Bounds.FARM, 1);
        laid("24 a lost one in none, its basket free for others", x, 1, 17, "2 -2 -2");
        BasketKeep y = Bounds.of(Bounds.SMALL, 3);
        laid("23 all are lost", y, 30, 0, "-2");
        BasketKeep z = Bounds.of(Bounds.SMALL, 2);
        laid("23 worn baskets keep out nothing", z, 1, 0, "-2");
        z.mend(0);
        laid("23 from NOW on", z, 2, 9, "0");
    }

    private static void worthIfItLayThere() {
        Bounds.takes("25 an empty one", Bounds::farm, x -> x.worthIf(1, 1, 60), 0);
        Bounds.takes("25 the one it is in", Bounds::farm, x -> x.worthIf(0, 0, 0), 22);
        Bounds.refuses("25 another one lies there", Bounds::farm, x -> x.worthIf(0, 2, 0), Bounds.NOT_SO);
        BasketKeep lost = Bounds.of(Bounds.FARM, 1);
        same("25 a lost one lies there", lost.worthIf(0, 2, 1) * 10 + lost.trouble(), 170);
        same("25 nothing is done", lost.good(0, 2) * 10 + lost.good(2, 2), 2);
        Bounds.refuses("25 it is lost, into an empty one", () -> Bounds.of(Bounds.FARM, 1), x -> x.worthIf(2, 1, 0), Bounds.NOT_SO);
        Bounds.refuses("25 it is lost, where it lies", () -> Bounds.of(Bounds.FARM, 1), x -> x.worthIf(2, 2, 0), Bounds.NOT_SO);
        Bounds.takes("25 out of another", Bounds::farm, x -> x.worthIf(0, 1, 1), 17);
    }

    private static void nestOfFewest() {
        BasketKeep x = Bounds.wide0();
        same("26 one who thinks of all", x.nest(0), 1);
        same("26 of like ones the least bits", x.nest(1) * 10 + x.nest(2), 11);
        x.think(0, 7);
        same("26 two, as one thinks of the rest", x.nest(0), 3);
        same("26 one, though of higher bits", x.nest(1), 2);
        x.think(1, 7);
        same("26 all together don't", x.nest(0), -2);
        same("26 none of one fear", x.nest(1), -2);
        x.think(4, 7);
        same("26 the last one, kinds no matter", x.nest(1), 16);
        String all = "level hurry 0;danger a every 1 from 1;danger b every 1 from 1;danger c every 1 from 1;danger d every 1 from 1;danger e every 1 from 1;"
            + "maker m grave lasts 1 thinks a;maker n hasty lasts 1 thinks b;maker o happy lasts 1 thinks c;maker p grave lasts 1 thinks d;"
            + "maker q grave lasts 1 thinks e;good g worth 1 fears a,b,c,d,e;good h worth 1 fears b,d;in g m";
        same("26 all five together", Check.of(all).nest(0), 31);
        same("26 two of five", Check.of(all).nest(1), 10);
        same("26 a worn basket's maker, too, and a lost good", Bounds.of(all, 2).nest(0), 31);
    }

    private static void besidesOfFewest() {
        String text = "level hurry 0;danger a every 1 from 1;danger b every 1 from 1;danger c every 9 from 30;maker m % lasts 30 thinks !;"
            + "good g worth 1 fears a, b;in g m";
        same("27 both", Check.of(text.replace("%", "grave").replace("!", "c")).besides(0, 1), 3);
        same("27 one of them", Check.of(text.replace("%", "grave").replace("!", "b")).besides(0, 15), 1);
        same("27 none", Check.of(text.replace("%", "grave").replace("!", "a, b")).besides(0, 15), 0);
        same("27 by none, as it is worn then", Check.of(text.replace("%", "grave").replace("!", "a, b")).besides(0, 16), -2);
        same("27 a hasty one: the highest besides", Check.of(text.replace("%", "hasty").replace("!", "a, b")).besides(0, 15), 4);
        same("27 a hasty one of one thought: two", Check.of(text.replace("%", "hasty").replace("!", "b")).besides(0, 1), 5);
        same("27 a hasty one who thinks of all that there are: by none", Check.of(one("every 9 from 1", "hasty lasts 9", "worth 1") + ";in g m").besides(0, 1), -2);
        same("27 a hasty one, the last is the highest", Check.of(text.replace("%", "hasty").replace("!", "a, b, c").replace("from 30", "from 1")
            .replace("fears a, b", "fears c")).besides(0, 1), -2);
        same("27 a happy one in year 1: by none", Check.of(text.replace("%", "happy").replace("!", "a, b")).besides(0, 1), -2);
        same("27 no years: none", Check.of(text.replace("%", "happy").replace("!", "c")).besides(0, 0), 0);
        BasketKeep nothing = Check.of(text.replace("%", "grave").replace("!", "a, b").replace("fears a, b", "fears a, b, c"));
        nothing.think(0, 0);
        nothing.think(0, 1);
        same("27 he thinks of nothing: all that there are but the last", nothing.besides(0, 15), 3);
        BasketKeep all = Check.of("level hurry 0;danger a every 9 from 1;danger b every 9 from 1;maker m grave lasts 2 thinks a;good g worth 1 fears a, b;in g m");
        all.think(0, 0);
        same("27 all that there are", all.besides(0, 9), 3);
        String like = "level hurry 0;danger a every 1 from 9;danger b every 1 from 1;danger c every 1 from 9;danger d every 1 from 9;maker m hasty lasts 30 thinks b;good g worth 1 fears b;in g m";
        same("27 of like ones the least bits", Check.of(like).besides(0, 8), 4);
        Bounds.refuses("27 in no basket", Bounds::farm, x -> x.besides(1, 0), Bounds.NOT_SO);
        Bounds.refuses("27 lost", () -> Bounds.of(Bounds.FARM, 1), x -> x.besides(2, 0), Bounds.NOT_SO);
        Bounds.refuses("27 lost, in no basket", EdgeTest::lostAndOut, x -> x.besides(0, 0), Bounds.NOT_SO);
        BasketKeep x = Check.of(text.replace("%", "grave").replace("!", "c"));
        x.besides(0, 1);
        same("27 he thinks as he did", x.maker(0, 2) * 10 + x.size(8), 40);
    }

    private static void vainAndOpen() {
        Bounds.takes("28 none lies there: all of it", Bounds::farm, x -> x.vain(1), 3);
        Bounds.takes("28 what it doesn't fear", Bounds::farm, x -> x.vain(0), 4);
        Bounds.takes("28 nothing", Bounds::small, x -> x.vain(0), 0);
        Bounds.takes("28 a lost one, too", () -> Bounds.of(Bounds.SMALL, 3), x -> x.vain(0), 0);
        Bounds.takes("28 of no thoughts", Bounds::small, x -> x.think(0, 0) + x.vain(0), 0);
        Bounds.takes("29 none", Bounds::farm, x -> x.open(), 0);
        Bounds.takes("29 one", Bounds::small, x -> x.think(0, 0) + x.open(), 1);
        Bounds.takes("29 a lost one's, too", () -> Bounds.of(Bounds.SMALL, 3), x -> x.think(0, 0) + x.open(), 1);
        Bounds.takes("29 that nobody fears", Bounds::farm, x -> x.think(2, 3) - x.maker(2, 2) + x.open(), 0);
        BasketKeep x = Bounds.wide0();
        for (int d = 0; d < 8; d++) {
            x.think(0, d);
        }
        same("29 all that the other four don't think of", x.open(), 32 + 64);
        for (int d = 0; d < 8; d++) {
            x.think(0, d);
        }
        same("29 the first thinks of all", x.open(), 0);
        String second = "level hurry 0;danger a every 1 from 1;danger b every 1 from 1;maker m grave lasts 1 thinks a;good g worth 1 fears b";
        same("29 the first danger isn't feared", Check.of(second).open(), 2);
        same("29 nor thought of", Check.of(second.replace("thinks a", "thinks b")).open(), 0);
        x = Bounds.wide0();
        for (int d = 0; d < 8; d++) {
            x.think(0, d);
        }
        same("28 nothing more", x.vain(0), 0);
    }

    private static void fitsOfUnsureThoughts() {
        String four = Bounds.WIDE.replaceAll(";befell.*", "");
        BasketKeep x = Check.of(four);
        same("30 all sets of four", x.fits(), 16);
        for (int i = 0; i < 16; i++) {
            same("31 by bits", x.fitAt(i), i);
        }
        same("32 in some", x.could(), 15);
        same("33 in all", x.surely(), 0);
        // u is lost in year 23 if p doesn't think of a: unsure thought 0 is otherwise.
        BasketKeep y = Check.of(four + ";befell u year 23");
        same("30 half of them", y.fits() * 100 + y.could(), 815);
        same("33 the first in all", y.surely(), 1);
        same("31 the last", y.fitAt(7), 15);
        // If s thinks of d, too, his basket keeps c out in 25 and d in 26; if it lasts for two, x is lost in 35.
        BasketKeep both = Check.of(four.replace("s grave lasts 27", "s grave lasts 2") + ";befell x year 35;befell u year 23");
        same("33 the first and the last in all", both.fits() * 100 + both.surely(), 409);
        BasketKeep worn = Check.of(four.replace("s grave lasts 27", "s grave lasts 1") + ";befell x year 35;befell u year 23");
        same("30 worn by c: lost in 26, whatever he thinks", worn.fits() * 100 + worn.surely(), 0);
        Check.tell(both, Bounds.SMALL);
        same("30 of the level that stands", both.fits() * 100 + both.could() * 10 + both.surely(), 100);
        BasketKeep z = Check.of(Bounds.SMALL + ";befell g year 3");
        same("30 the empty set alone", z.fits() * 100 + z.could() * 10 + z.surely(), 100);
        same("31 it is 0", z.fitAt(0), 0);
        BasketKeep w = Check.of(Bounds.SMALL + ";unsure m d;befell g year 2");
        same("30 no set", w.fits(), 0);
        same("32 without a set", w.could(), 0);
        same("33 without a set", w.surely(), 0);
        same("30 a year too early", Check.of(Bounds.SMALL + ";befell g year 4").fits(), 0);
        BasketKeep v = Check.of(Bounds.SMALL + ";unsure m d;befell g year 1");
        same("30 without the thought", v.fits() * 100 + v.fitAt(0) * 10 + v.surely(), 111);
        v.year();
        v.think(0, 0);
        v.take(0);
        same("30 from year 1 on, all else as told", v.fits() * 100 + v.fitAt(0) * 10 + v.surely(), 111);
        same("30 nothing unsure, nothing befell", Bounds.small().fits(), 1);
        same("30 never lost, but it befell", Check.of(one("every 9 from 30", "grave lasts 9", "worth 1") + ";in g m;befell g year 40").fits(), 0);
    }

    private static void askAndJudge() {
        String four = Bounds.WIDE.replaceAll(";befell.*", "");
        Bounds.takes("34 of like ones the first", () -> Check.of(four), x -> x.ask(), 0);
        Bounds.takes("35 half of sixteen", () -> Check.of(four), x -> x.askLeaves(), 8);
        Bounds.takes("34 not the one that is sure", () -> Check.of(four + ";befell u year 23"), x -> x.ask(), 1);
        Bounds.takes("35 half of eight", () -> Check.of(four + ";befell u year 23"), x -> x.askLeaves(), 4);
        Bounds.takes("34 no fits", () -> Check.of(Bounds.SMALL + ";unsure m d;befell g year 2"), x -> x.ask(), -2);
        Bounds.takes("35 no fits", () -> Check.of(Bounds.SMALL + ";unsure m d;befell g year 2"), x -> x.askLeaves(), -2);
        Bounds.takes("34 no unsure thought", () -> Check.of(Bounds.SMALL + ";befell g year 3"), x -> x.ask(), -2);
        Bounds.takes("35 no unsure thought", () -> Check.of(Bounds.SMALL + ";befell g year 3"), x -> x.askLeaves(), -2);
        Bounds.takes("34 one set is left: the first", () -> Check.of(Bounds.SMALL + ";unsure m d;befell g year 1"), x -> x.ask(), 0);
        Bounds.takes("35 one set is left", () -> Check.of(Bounds.SMALL + ";unsure m d;befell g year 1"), x -> x.askLeaves(), 1);
        Bounds.takes("36 nothing befell", Bounds::small, x -> x.judge(), -2);
        Bounds.takes("36 it befell so", () -> Check.of(Bounds.SMALL + ";befell g year 3"), x -> x.judge(), -2);
        Bounds.takes("36 a year before", () -> Check.of(Bounds.SMALL + ";befell g year 2"), x -> x.judge(), 0);
        Bounds.takes("36 a year behind", () -> Check.of(Bounds.SMALL + ";befell g year 4"), x -> x.judge(), 0);
        Bounds.takes("36 the last of four", () -> Check.of(four + ";befell x year 27"), x -> x.judge(), 3);
        Bounds.takes("36 the first by numbers, not as told", () -> Check.of(four + ";befell x year 27;befell u year 1"), x -> x.judge(), 0);
        Bounds.takes("36 never lost, but it befell", () -> Check.of(four + ";befell u year 40"), x -> x.judge(), 0);
        Bounds.takes("36 by thoughts as told, whatever fits", () -> Check.of(Bounds.SMALL + ";unsure m d;befell g year 1"), x -> x.judge(), 0);
        Bounds.takes("36 whatever he thinks NOW", () -> Check.of(Bounds.SMALL + ";befell g year 1"), x -> x.think(0, 0) + x.judge(), 0);
    }

    private static void ratio(String what, BasketKeep x, int n, long upper, long lower) {
        Check.fine(x, what + " upper", x.odds(0, n, false), upper);
        Check.fine(x, what + " lower", x.odds(0, n, true), lower);
    }

    private static void hurryOfNoneAndAll() {
        ratio("43 hurry 0", Bounds.small(), 2, 1, 1);
        ratio("43 hurry 0, worn by then: 0 by 1", Bounds.small(), 3, 0, 1);
        ratio("43 hurry 100: 0 by 1", Check.of(Bounds.SMALL.replace("hurry 0", "hurry 100")), 1, 0, 1);
        ratio("43 hurry 100, no years", Check.of(Bounds.SMALL.replace("hurry 0", "hurry 100")), 0, 1, 1);
        ratio("43 hurry 1", Check.of(Bounds.SMALL.replace("hurry 0", "hurry 1")), 1, 99, 100);
        ratio("43 hurry 99", Check.of(Bounds.SMALL.replace("hurry 0", "hurry 99")), 1, 1, 100);
        ratio("43 in lowest terms", Check.of(Bounds.SMALL.replace("hurry 0", "hurry 60")), 1, 2, 5);
        ratio("43 lost NOW", Bounds.of(Bounds.SMALL, 3), 0, 0, 1);
        BasketKeep bare = Bounds.small();
        bare.take(0);
        ratio("43 in no basket, not yet", bare, 0, 1, 1);
        ratio("43 in no basket", bare, 1, 0, 1);
        BasketKeep x = Check.of(Bounds.SMALL.replace("hurry 0", "hurry 60"));
        same("44 nine times two by five", x.mean(0, 1, false) * 10 + x.mean(0, 1, true), 185);
        BasketKeep y = Check.of(Bounds.SMALL.replace("hurry 0", "hurry 60").replace("worth 9", "worth 5"));
        same("44 in lowest terms: two by one", y.mean(0, 1, false) * 10 + y.mean(0, 1, true), 21);
        BasketKeep lost = Bounds.of(Bounds.SMALL, 3);
        same("44 lost: 0 by 1", lost.mean(0, 0, false) * 10 + lost.mean(0, 0, true), 1);
        same("44 its worth, no years", x.mean(0, 0, false) * 10 + x.mean(0, 0, true), 91);
        String eight = "level hurry 1;danger a every 9 from 1;danger b every 9 from 1;danger c every 9 from 1;danger d every 9 from 1;danger e every 9 from 1;"
            + "danger f every 9 from 1;danger g every 9 from 1;danger h every 9 from 1;maker m grave lasts 8 thinks a,b,c,d,e,f,g,h;"
            + "good x worth 99 fears a,b,c,d,e,f,g,h;in x m";
        // 99 to the 8th by 100 to the 8th, and 99 times as much.
        ratio("43 all eight thoughts", Check.of(eight), 1, 9227446944279201L, 10000000000000000L);
        same("44 the largest upper one", Check.of(eight).mean(0, 1, false), 913517247483640899L);
        same("44 its lower one", Check.of(eight).mean(0, 1, true), 10000000000000000L);
        ratio("43 worn by the seventh", Check.of(eight.replace("lasts 8", "lasts 7")), 1, 0, 1);
        String second = "level hurry 10;danger a every 1 from 1;danger b every 1 from 1;maker m grave lasts 30 thinks b;good g worth 1 fears b;in g m";
        ratio("43 of his thoughts alone", Check.of(second), 30, 9, 10);
        String hasty = "level hurry 10;danger a every 1 from 1;danger b every 1 from 1;maker m hasty lasts 30 thinks a, b;good g worth 1 fears a;in g m";
        ratio("43 the highest of a hasty one is by all he thinks of", Check.of(hasty), 30, 9, 10);
        ratio("43 the highest is never kept out", Check.of(hasty.replace("fears a", "fears b")), 1, 0, 1);
    }

    private static void drawsByThoughts() {
        BasketKeep x = Check.of(Bounds.SMALL.replace("hurry 0", "hurry 100"));
        same("46 one thought", x.slips(0), 1);
        x.think(0, 0);
        same("46 no thoughts NOW", x.slips(0) * 10 + x.trouble(), 0);
        same("45 hurry 100", Check.of(Bounds.SMALL.replace("hurry 0", "hurry 100")).drawn(65536, 1), 0);
        same("45 hurry 0", Bounds.small().drawn(65536, 2), 9);
        // The draws from 0 are 74, 24, 52, ..: of two makers by numbers, the first's thought stays and the second's slips.
        String two = "level hurry 50;danger a every 1 from 1;danger b every 1 from 1;maker m grave lasts 9 thinks %;maker n grave lasts 9 thinks a;"
            + "good g worth 5 fears a;good h worth 3 fears a;in g m;in h n";
        same("45 maker by maker", Check.of(two.replace("%", "a")).drawn(0, 1), 5);
        same("45 thought by thought, by numbers, not as told: a stays, b slips", Check.of(two.replace("%", "b, a")).drawn(0, 1), 8);
        same("46 one slips, then 52 stays", Check.of(two.replace("%", "b, a")).slips(0), 1);
        same("46 a thought alone", Check.of(two.replace("%", "b")).slips(0), 1);
        same("45 behind it the second's slips", Check.of(two.replace("%", "a").replace("hurry 50", "hurry 24")).drawn(0, 1), 8);
        same("45 24 is below 25", Check.of(two.replace("%", "a").replace("hurry 50", "hurry 25")).drawn(0, 1), 5);
        BasketKeep y = Check.of(two.replace("%", "a"));
        same("45 the same seed, the same draws", y.drawn(0, 1) * 10 + y.drawn(0, 1), 55);
    }

    /** No run of 512 calls comes so far, but the bound is the document's. */
    private static void yearsUpTo999() {
        BasketKeep x = Bounds.of(Bounds.SMALL, 998);
        Check.fine(x, "47 the 999th", x.year(), 0);
        same("47 999 went by", x.size(7), 999);
        String before = Bounds.shown(x);
        Check.refused(x, "47 no 1,000th", x::year, Bounds.NO_ROOM);
        Check.same("47 nothing is done", Bounds.shown(x).equals(before), true);
        same("12 behind the last", x.strikesNext(0), 1000);
        x.undo();
        Check.fine(x, "47 room again, behind an undo", x.year(), 0);
        same("47 none comes to be lost", Bounds.small().year(), 0);
        same("47 the first of four", Bounds.of(Bounds.WIDE, 29).year(), 2);
    }

    private static void putIntoEmptyOnes() {
        Bounds.takes("48 it was in none", Bounds::farm, x -> x.put(1, 1), -2);
        Bounds.takes("48 it was in another", Bounds::farm, x -> x.put(2, 1), 2);
        Bounds.takes("48 it was in the first", Bounds::farm, x -> x.put(0, 1), 0);
        Bounds.refuses("48 one lies there", Bounds::farm, x -> x.put(1, 0), Bounds.NOT_SO);
        Bounds.refuses("48 it lies there itself", Bounds::farm, x -> x.put(0, 0), Bounds.NOT_SO);
        Bounds.refuses("48 a lost one lies there", () -> Bounds.of(Bounds.FARM, 1), x -> x.put(0, 2), Bounds.NOT_SO);
        Bounds.refuses("48 it is lost", () -> Bounds.of(Bounds.FARM, 1), x -> x.put(2, 1), Bounds.NOT_SO);
        Bounds.refuses("48 it is lost and lies there", () -> Bounds.of(Bounds.FARM, 1), x -> x.put(2, 2), Bounds.NOT_SO);
        BasketKeep x = Bounds.farm();
        x.put(0, 1);
        same("48 the one it was in is empty", x.put(1, 0) * 10 + x.maker(0, 3), -19);
        BasketKeep y = Bounds.of(Bounds.SMALL, 2);
        y.take(0);
        same("48 a worn one is empty, too", y.put(0, 0) * 10 + y.trouble(), -20);
    }

    private static void takeOut() {
        Bounds.takes("49 out of the first", Bounds::farm, x -> x.take(0), 0);
        Bounds.takes("49 out of the last", Bounds::farm, x -> x.take(2), 2);
        Bounds.refuses("49 it is in none", Bounds::farm, x -> x.take(1), Bounds.NOT_SO);
        Bounds.takes("49 a lost one", () -> Bounds.of(Bounds.FARM, 1), x -> x.take(2), 2);
        Bounds.refuses("49 a lost one in none", EdgeTest::lostAndOut, x -> x.take(0), Bounds.NOT_SO);
        BasketKeep x = Bounds.farm();
        x.take(0);
        same("49 in none then", x.good(0, 2) * 10 + x.maker(0, 3), -22);
        same("49 one fewer in baskets", x.size(4), 1);
    }

    private static void thinkOfOneMoreOrNoMore() {
        Bounds.takes("50 one more", Bounds::farm, x -> x.think(0, 3), 13);
        Bounds.takes("50 no more of it", Bounds::farm, x -> x.think(0, 0), 4);
        Bounds.takes("50 of nothing", Bounds::small, x -> x.think(0, 0), 0);
        Bounds.takes("50 and again", Bounds::small, x -> x.think(0, 0) + x.think(0, 0), 1);
        Bounds.takes("50 of all eight", Bounds::wide0, x -> x.think(0, 7) + x.think(0, 7), 127 + 255);
        Bounds.takes("50 the last maker, the last danger", Bounds::wide0, x -> x.think(4, 7), 8 + 16 + 128);
    }

    private static void mendAsTold() {
        Bounds.refuses("51 it lasts as told", Bounds::farm, x -> Bounds.one(x.mend(0)), 0, Bounds.NOT_SO);
        Bounds.takes("51 one less", () -> Bounds.of(Bounds.SMALL, 1), x -> Bounds.one(x.mend(0)), 1);
        Bounds.takes("51 worn", () -> Bounds.of(Bounds.SMALL, 2), x -> Bounds.one(x.mend(0)) * 10 + x.maker(0, 1), 12);
        Bounds.takes("51 its good is lost", () -> Bounds.of(Bounds.SMALL, 3), x -> Bounds.one(x.mend(0)) * 10 + x.maker(0, 1), 12);
        BasketKeep x = Bounds.of(Bounds.SMALL, 1);
        x.mend(0);
        same("51 mended twice", Bounds.one(x.mend(0)) * 10 + x.trouble(), 5);
    }

    private static BasketKeep acted(int acts) {
        BasketKeep x = Bounds.wide0();
        for (int i = 0; i < acts; i++) {
            x.year();
        }
        return x;
    }

    private static void undoSixteen() {
        for (int acts : new int[] {0, 1, 15, 16, 17, 18, 20}) {
            int kept = Math.min(acts, 16);
            BasketKeep x = acted(acts);
            same("52 acts that can be undone", x.size(8), kept);
            for (int i = 1; i <= kept; i++) {
                Check.fine(x, "52 undo " + i + " of " + acts, Bounds.one(x.undo()), 1);
                same("52 the latest first", x.size(7) * 100 + x.size(8), (acts - i) * 100 + kept - i);
            }
            String before = Bounds.shown(x);
            Check.refused(x, "52 no more of " + acts, () -> Bounds.one(x.undo()), 0, Bounds.NOTHING);
            Check.same("52 nothing is undone", Bounds.shown(x).equals(before), true);
        }
        BasketKeep x = acted(20);
        for (int i = 0; i < 10; i++) {
            x.undo();
        }
        for (int i = 0; i < 12; i++) {
            x.think(0, 0);
        }
        same("52 round and round", x.size(8) * 100 + x.size(7), 1610);
        for (int i = 0; i < 16; i++) {
            x.undo();
        }
        same("52 back to the oldest that is kept", x.size(8) * 100 + x.size(7), 6);
        eachActUndone();
    }

    private static void eachActUndone() {
        Bounds.Call[] acts = {x -> x.year(), x -> x.put(1, 1), x -> x.put(0, 1), x -> x.take(0), x -> x.take(2), x -> x.think(0, 0), x -> x.think(2, 0),
            x -> Bounds.one(x.mend(0))};
        for (int i = 0; i < acts.length; i++) {
            BasketKeep x = Bounds.of(Bounds.FARM, 1);
            String before = Bounds.shown(x);
            acts[i].on(x);
            same("52 act " + i + " isn't refused", x.trouble(), 0);
            same("52 act " + i + " can be undone", x.size(8), 2);
            Check.same("52 act " + i + " did something", Bounds.shown(x).equals(before), false);
            Check.fine(x, "52 act " + i + " is undone", Bounds.one(x.undo()), 1);
            Check.same("52 act " + i + ": all as before", Bounds.shown(x).equals(before), true);
        }
        BasketKeep x = Bounds.of(Bounds.FARM, 1);
        x.put(2, 1);
        x.take(1);
        x.think(9, 9);
        x.mend(1);
        x.image();
        x.worth();
        same("52 refused acts, images and what only tells are none", x.size(8), 1);
    }

    private static void imagesOfAll() {
        BasketKeep x = Bounds.of(Bounds.FARM, 1);
        x.put(1, 1);
        x.think(0, 1);
        String then = Bounds.shown(x);
        Check.fine(x, "53 the first", x.image(), 0);
        x.mend(0);
        x.take(1);
        x.think(1, 3);
        x.year();
        x.year();
        Check.fine(x, "54 gone back", Bounds.one(x.back(0)), 1);
        String due = then.replaceFirst("^sizes (\\S+ \\S+ \\S+ \\S+ \\S+ \\S+ \\S+ \\S+) 3 0", "sizes $1 0 1");
        Check.same("54 all is as by it, but nothing can be undone and the image stays", Bounds.shown(x).equals(due), true);
        Check.refused(x, "54 nothing can be undone", () -> Bounds.one(x.undo()), 0, Bounds.NOTHING);
        x.year();
        same("54 acts behind it can", x.size(8) * 10 + Bounds.one(x.undo()), 11);
        Check.same("54 up to the image", Bounds.shown(x).equals(due), true);
        BasketKeep y = Bounds.farm();
        y.year();
        y.image();
        y.undo();
        same("54 an image of what was undone", Bounds.one(y.back(0)) * 10 + y.size(7), 11);
        y.year();
        y.image();
        y.back(0);
        y.back(1);
        same("54 from one to another", y.size(7) * 10 + y.size(9), 22);
        Check.tell(y, Bounds.SMALL);
        Bounds.setTrouble(y, Bounds.NUMBER);
        same("3 no images of the level before", Bounds.one(y.back(0)) * 10 + y.trouble(), 1);
        same("53 the first anew", y.image(), 0);
    }

    private static void ledByNumbers() {
        BasketKeep x = Bounds.farm();
        same("55 none is lost", Bounds.led(x, 0), -7);
        x.year();
        for (int i : new int[] {-1, 1, 2, 3, 4, 32, Integer.MIN_VALUE, Integer.MAX_VALUE}) {
            same("55 of one: " + i, Bounds.led(x, i), -7);
        }
        same("55 the first of one", Bounds.led(x, 0), 2);
        x.year();
        same("55 of two, by numbers, not by years", Bounds.led(x, 0) * 10 + Bounds.led(x, 1), 2);
        same("55 no third of two", Bounds.led(x, 2), -7);
        x.year();
        x.year();
        same("55 all three", Bounds.led(x, 0) * 100 + Bounds.led(x, 1) * 10 + Bounds.led(x, 2), 12);
        same("55 no fourth of three", Bounds.led(x, 3), -7);
        same("55 no -1st", Bounds.led(x, -1), -7);
        x.undo();
        same("55 NOW", Bounds.led(x, 1) * 10 + Bounds.led(x, 2), 13);
        Bounds.setTrouble(x, Bounds.NUMBER);
        Bounds.led(x, 9);
        same("55 no number is told of it", x.trouble(), Bounds.NUMBER);
    }

    /** Answers of all sorts, the longer spans behind the shorter ones and the other way round. */
    private static String answers(BasketKeep x) {
        StringBuilder all = new StringBuilder(Bounds.shown(x));
        for (int n : new int[] {1, 30, 4, 29, 2}) {
            all.append(" lay ").append(x.lay(n)).append(' ').append(row(x, n)).append(" span ").append(x.worthIn(n)).append(' ').append(x.lost(n));
            all.append(' ').append(x.keptOut(n)).append(' ').append(x.busiest(n)).append(' ').append(x.worst(n)).append(' ').append(x.drawn(n, n));
            for (int g = 0; g < x.size(3); g++) {
                all.append(" good ").append(x.lostIn(g)).append(' ').append(x.lostBy(g)).append(' ').append(x.nest(g)).append(' ').append(x.besides(g, n));
                all.append(' ').append(x.odds(g, n, false)).append('/').append(x.odds(g, n, true));
                all.append(' ').append(x.mean(g, n, false)).append('/').append(x.mean(g, n, true)).append(' ').append(x.worthIf(g, 0, n));
            }
            for (int m = 0; m < x.size(2); m++) {
                all.append(" maker ").append(x.wornIn(m)).append(' ').append(x.lastsIn(m, n)).append(' ').append(x.vain(m)).append(' ').append(x.keepsOut(m, n));
            }
        }
        all.append(" thoughts ").append(x.fits()).append(' ').append(x.could()).append(' ').append(x.surely()).append(' ').append(x.ask());
        all.append(' ').append(x.askLeaves()).append(' ').append(x.judge()).append(' ').append(x.open()).append(' ').append(x.slips(7));
        return all.toString();
    }

    /** A level, or what was asked before, leaves nothing to the next one. */
    private static void nothingIsLeftOver() {
        String untold = Bounds.FARM.replace("thinks rain, wasp", "thinks rain").replace("thinks frost, wasp, rot", "thinks frost, rot");
        String[] texts = {Bounds.WIDE, Bounds.FARM, Bounds.SMALL, untold, Bounds.FARM.replaceAll(";(in|unsure|befell)[a-z 0-9]*", "")};
        for (String text : texts) {
            String due = answers(Check.of(text));
            for (String before : texts) {
                BasketKeep x = Check.of(before);
                answers(x);
                x.image();
                x.year();
                x.think(0, 0);
                x.take(0);
                same("3 the level stands", Check.tell(x, text) > 0 ? 1 : 0, 1);
                Check.same("3 all answers as of a new object: " + text + ", before it " + before, answers(x).equals(due), true);
                Check.same("3 and once more", answers(x).equals(due), true);
                Check.tell(x, before + ";");
                Check.same("3 and behind a fault: " + text + ", refused " + before, answers(x).equals(due), true);
            }
        }
    }
}
