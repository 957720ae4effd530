/** One method for each promise: ordinary inputs, the edges that the document names, and wrong inputs. */
public final class PromiseTest {
    private static final String FARM = Bounds.FARM;
    private static final String SMALL = Bounds.SMALL;
    private static final int NONE = BasketKeep.NONE;

    public static void main(String[] args) {
        promise1NewObject();
        promise2Feed();
        promise3Level();
        promise4and5FaultAndWhere();
        FaultCases.all();
        promise6Danger();
        promise7Maker();
        promise8Good();
        promise9Strikes();
        promise10KeepsOut();
        promise11Worth();
        promise12StrikesNext();
        promise13to14WorthInAndLost();
        promise15to16LostInAndLostBy();
        promise17to18WornInAndLastsIn();
        promise19to20KeptOutAndBusiest();
        promise21Worst();
        promise22Still();
        yearByYear();
        promise23to24Lay();
        promise25WorthIf();
        promise26Nest();
        promise27Besides();
        promise28to29VainAndOpen();
        promise30to33Fits();
        promise34to36AskAndJudge();
        promise37to39Weaves();
        promise40to42Gate();
        promise43to44Odds();
        promise45to46Draws();
        promise47Year();
        promise48to49PutAndTake();
        promise50Think();
        promise51Mend();
        promise52Undo();
        promise53to54Images();
        promise55Led();
        promise56Size();
        promise57Trouble();
        Check.end("PromiseTest");
    }

    private static void same(String what, long got, long due) {
        Check.same(what, got, due);
    }

    private static void promise1NewObject() {
        BasketKeep x = new BasketKeep();
        for (int what = 0; what <= 10; what++) {
            same("1 size " + what, x.size(what), 0);
        }
        same("1 trouble", x.trouble(), 0);
        same("1 fault", x.fault(), 0);
        same("1 where", x.where(), NONE);
        Check.refused(x, "1 danger", () -> x.danger(0, 0), 1);
        Check.refused(x, "1 strikes(0)", () -> x.strikes(0), 1);
        Check.refused(x, "1 keepsOut", () -> x.keepsOut(0, 0), 1);
        Check.refused(x, "1 worthIn(61)", () -> x.worthIn(61), 1);
        Check.refused(x, "1 lay(0)", () -> x.lay(0), 1);
        Check.refused(x, "1 could", x::could, 1);
        Check.refused(x, "1 surely", x::surely, 1);
        Check.refused(x, "1 askLeaves", x::askLeaves, 1);
        Check.refused(x, "1 holds(10)", () -> x.holds(10, true, true, true), -100, 1);
        Check.refused(x, "1 rest(-1)", () -> x.rest(-1), 1);
        Check.refused(x, "1 strokes(0)", () -> x.strokes(0, -1), 1);
        Check.refused(x, "1 undo", () -> x.undo() ? 1 : 0, 0, 6);
        Check.refused(x, "1 back", () -> x.back(0) ? 1 : 0, 0, 1);
        Check.refused(x, "1 mend", () -> x.mend(0) ? 1 : 0, 0, 1);
    }

    private static void promise2Feed() {
        BasketKeep x = new BasketKeep();
        same("2 bytes, the highest first", Check.tell(x, SMALL), 1);
        Check.refused(x, "2 a refusal before", () -> x.level(1), 2);
        for (int i = 1; i <= 45; i++) {
            same("2 feed " + i, x.feed(0, -1, 0x20202020, Integer.MIN_VALUE, 7), 20 * i);
        }
        same("2 no room", x.feed(0, 0, 0, 0, 0), NONE);
        same("2 none came", x.size(10), 900);
        same("2 feed's refusal has no number", x.trouble(), 2);
        same("2 the level of all", x.level(900), NONE);
        same("2 a byte that begins no token", x.fault() * 1000 + x.where(), 1000);
        same("2 room again", x.feed(0, 0, 0, 0, 0), 20);
    }

    private static void promise3Level() {
        BasketKeep x = new BasketKeep();
        Check.feed(x, SMALL);
        Check.refused(x, "3 more than there is", () -> x.level(101), 2);
        Check.refused(x, "3 fewer than none", () -> x.level(-1), 2);
        same("3 the tape stays", x.size(10), 100);
        Check.fine(x, "3 goods", x.level(SMALL.length()), 1);
        same("3 the tape is empty", x.size(10), 0);
        x.year();
        x.image();
        Check.feed(x, "level");
        Check.refused(x, "3 a fault", () -> x.level(5), 4);
        same("3 the tape is empty behind a fault", x.size(10), 0);
        same("3 the level stays", x.size(7) * 100 + x.size(8) * 10 + x.size(9), 111);
        Check.refused(x, "3 no bytes are no level", () -> x.level(0), 4);
        same("3 at the end", x.fault() * 10 + x.where(), 10);
        Check.feed(x, SMALL + ";befell g year 41");
        Check.fine(x, "3 a digit behind the first n bytes is none of them", x.level(SMALL.length() + 16), 1);
        Check.feed(x, SMALL + "mm");
        Check.fine(x, "3 nor is a letter", x.level(SMALL.length()), 1);
        Check.fine(x, "3 another level", Check.tell(x, FARM), 3);
        same("3 no year, nothing to undo, no image", x.size(7) * 100 + x.size(8) * 10 + x.size(9), 0);
        same("3 worth as told", x.worth(), 22);
        same("3 thoughts as told", x.maker(0, 2), 5);
    }

    private static void promise4and5FaultAndWhere() {
        BasketKeep x = new BasketKeep();
        Check.tell(x, "level hurry 101");
        same("4 fault", x.fault(), 4);
        same("5 where", x.where(), 12);
        x.feed(0, 0, 0, 0, 0);
        x.size(0);
        same("5 where behind calls that can't be refused", x.where(), 12);
        x.level(21);
        same("4 fault behind 2", x.fault(), 4);
        same("5 where behind 2", x.where(), NONE);
        x.level(0);
        same("4 fault of no bytes", x.fault(), 1);
        same("5 where of no bytes", x.where(), 0);
        x.worth();
        same("5 where behind another refusal", x.where(), NONE);
        same("4 fault behind another call", x.fault(), 1);
        Check.tell(x, SMALL);
        same("4 no fault", x.fault(), 0);
        same("5 nowhere", x.where(), NONE);
    }

    private static void promise6Danger() {
        BasketKeep x = Check.of(FARM);
        Check.fine(x, "6 every", x.danger(1, 0), 3);
        Check.fine(x, "6 from", x.danger(3, 1), 30);
        Check.fine(x, "6 who fear it", x.danger(0, 2), 5);
        Check.fine(x, "6 who think of it", x.danger(2, 3), 5);
        Check.fine(x, "6 nobody fears it", x.danger(3, 2), 0);
        x.think(1, 2);
        x.year();
        same("6 who think of it now", x.danger(2, 3), 7);
        same("6 lost ones fear it too", x.danger(0, 2), 5);
        Check.refused(x, "6 no such danger", () -> x.danger(4, 0), 1);
        Check.refused(x, "6 danger -1", () -> x.danger(-1, 0), 1);
        Check.refused(x, "6 what 4", () -> x.danger(0, 4), 1);
        Check.refused(x, "6 what -1", () -> x.danger(0, -1), 1);
    }

    private static void promise7Maker() {
        BasketKeep x = Check.of(FARM);
        same("7 kinds", x.maker(0, 0) * 100 + x.maker(1, 0) * 10 + x.maker(2, 0), 12);
        Check.fine(x, "7 lasts", x.maker(2, 1), 5);
        Check.fine(x, "7 thinks", x.maker(2, 2), 14);
        Check.fine(x, "7 holds", x.maker(2, 3), 2);
        Check.fine(x, "7 holds none", x.maker(1, 3), -2);
        x.year();
        same("7 lasts now", x.maker(0, 1), 2);
        same("7 holds a lost one", x.maker(2, 3), 2);
        Check.refused(x, "7 no such maker", () -> x.maker(3, 0), 1);
        Check.refused(x, "7 maker -1", () -> x.maker(-1, 0), 1);
        Check.refused(x, "7 what 4", () -> x.maker(0, 4), 1);
        Check.refused(x, "7 what -1", () -> x.maker(0, -1), 1);
    }

    private static void promise8Good() {
        BasketKeep x = Check.of(FARM);
        Check.fine(x, "8 worth", x.good(1, 0), 7);
        Check.fine(x, "8 fears", x.good(0, 1), 3);
        Check.fine(x, "8 in", x.good(2, 2), 2);
        Check.fine(x, "8 in none", x.good(1, 2), -2);
        Check.fine(x, "8 not lost", x.good(2, 3), 0);
        x.year();
        same("8 lost", x.good(2, 3), 1);
        same("8 lies where it lay", x.good(2, 2), 2);
        Check.refused(x, "8 no such good", () -> x.good(3, 0), 1);
        Check.refused(x, "8 good -1", () -> x.good(-1, 0), 1);
        Check.refused(x, "8 what 4", () -> x.good(0, 4), 1);
        Check.refused(x, "8 what -1", () -> x.good(0, -1), 1);
    }

    private static void promise9Strikes() {
        BasketKeep x = Check.of(FARM);
        Check.fine(x, "9 year 1", x.strikes(1), 1);
        Check.fine(x, "9 year 5", x.strikes(5), 3);
        Check.fine(x, "9 year 20", x.strikes(20), 6);
        Check.fine(x, "9 not before from", x.strikes(21), 1);
        Check.fine(x, "9 none", x.strikes(6), 0);
        Check.fine(x, "9 year 999", x.strikes(999), 1);
        x.year();
        same("9 no matter how many went by", x.strikes(1), 1);
        Check.refused(x, "9 year 0", () -> x.strikes(0), 2);
        Check.refused(x, "9 year 1000", () -> x.strikes(1000), 2);
    }

    private static void promise10KeepsOut() {
        BasketKeep x = Check.of(FARM);
        Check.fine(x, "10 grave", x.keepsOut(0, 1), 5);
        Check.fine(x, "10 hasty", x.keepsOut(1, 1), 1);
        Check.fine(x, "10 happy, odd", x.keepsOut(2, 999), 0);
        Check.fine(x, "10 happy, even", x.keepsOut(2, 2), 14);
        x.think(1, 3);
        same("10 hasty, by what he thinks of now", x.keepsOut(1, 1), 3);
        x.think(1, 0);
        x.think(1, 1);
        same("10 hasty with one thought", x.keepsOut(1, 2), 0);
        x.think(1, 3);
        same("10 hasty with none", x.keepsOut(1, 2), 0);
        Check.refused(x, "10 no such maker", () -> x.keepsOut(3, 0), 1);
        Check.refused(x, "10 year 0", () -> x.keepsOut(0, 0), 2);
        Check.refused(x, "10 year 1000", () -> x.keepsOut(0, 1000), 2);
        BasketKeep y = Check.of(SMALL);
        y.year();
        same("10 not worn yet", y.keepsOut(0, 1), 1);
        y.year();
        same("10 worn", y.keepsOut(0, 1), 0);
    }

    private static void promise11Worth() {
        BasketKeep x = Check.of(FARM);
        Check.fine(x, "11 worth", x.worth(), 22);
        x.year();
        same("11 behind a year", x.worth(), 17);
        x.year();
        same("11 behind two", x.worth(), 7);
    }

    private static void promise12StrikesNext() {
        BasketKeep x = Check.of(FARM);
        Check.fine(x, "12 year 1", x.strikesNext(0), 1);
        Check.fine(x, "12 far off", x.strikesNext(3), 30);
        x.year();
        same("12 behind it", x.strikesNext(0), 3);
        same("12 ahead", x.strikesNext(1), 2);
        x.year();
        same("12 the very next", x.strikesNext(0), 3);
        same("12 once more", x.strikesNext(1), 5);
        Check.refused(x, "12 no such", () -> x.strikesNext(4), 1);
        Check.refused(x, "12 -1", () -> x.strikesNext(-1), 1);
    }

    private static void promise13to14WorthInAndLost() {
        BasketKeep x = Check.of(FARM);
        int[] worth = {22, 17, 7, 7, 0, 0};
        int[] lost = {0, 4, 5, 5, 7, 7};
        for (int n = 0; n < worth.length; n++) {
            Check.fine(x, "13 worthIn " + n, x.worthIn(n), worth[n]);
            Check.fine(x, "14 lost " + n, x.lost(n), lost[n]);
        }
        same("13 worthIn 60", x.worthIn(60), 0);
        same("14 lost 60", x.lost(60), 7);
        same("13 nothing is done by it", x.worth(), 22);
        x.year();
        same("13 from now on", x.worthIn(1), 7);
        same("14 lost now, too", x.lost(0), 4);
        Check.refused(x, "13 61", () -> x.worthIn(61), 2);
        Check.refused(x, "13 -1", () -> x.worthIn(-1), 2);
        Check.refused(x, "14 61", () -> x.lost(61), 2);
        Check.refused(x, "14 -1", () -> x.lost(-1), 2);
    }

    private static void promise15to16LostInAndLostBy() {
        BasketKeep x = Check.of(FARM);
        int[] in = {2, 4, 1};
        int[] by = {1, 2, 0};
        for (int g = 0; g < 3; g++) {
            Check.fine(x, "15 lostIn " + g, x.lostIn(g), in[g]);
            Check.fine(x, "16 lostBy " + g, x.lostBy(g), by[g]);
        }
        x.year();
        same("15 lost now", x.lostIn(2), 0);
        same("16 lost now", x.lostBy(2), -2);
        same("15 one year less", x.lostIn(0), 1);
        Check.refused(x, "15 no such", () -> x.lostIn(3), 1);
        Check.refused(x, "16 no such", () -> x.lostBy(-1), 1);
        String rare = "level hurry 0;danger d every 9 from 30;maker m hasty lasts 1 thinks d;good g worth 9 fears d";
        BasketKeep y = Check.of(rare);
        same("15 within 60", y.lostIn(0), 30);
        BasketKeep z = Check.of(rare.replace("hasty lasts 1", "grave lasts 30") + ";in g m");
        Check.fine(z, "15 not within 60", z.lostIn(0), -2);
        Check.fine(z, "16 not within 60", z.lostBy(0), -2);
        BasketKeep w = Check.of("level hurry 0;danger d every 2 from 2;maker m grave lasts 29 thinks d;good g worth 9 fears d;in g m");
        same("15 just within 60", w.lostIn(0), 60);
        same("16 just within 60", w.lostBy(0), 0);
        same("17 worn in time", w.wornIn(0), 58);
    }

    private static void promise17to18WornInAndLastsIn() {
        BasketKeep x = Check.of(SMALL);
        Check.fine(x, "17 wornIn", x.wornIn(0), 2);
        Check.fine(x, "18 now", x.lastsIn(0, 0), 2);
        Check.fine(x, "18 behind one", x.lastsIn(0, 1), 1);
        Check.fine(x, "18 behind sixty", x.lastsIn(0, 60), 0);
        x.year();
        same("17 one year less", x.wornIn(0), 1);
        x.year();
        same("17 worn now", x.wornIn(0), 0);
        x.year();
        same("17 worn, its good lost", x.wornIn(0) * 10 + x.good(0, 3), 1);
        x.take(0);
        same("17 worn, without a good", x.wornIn(0), 0);
        Check.refused(x, "17 no such", () -> x.wornIn(1), 1);
        Check.refused(x, "18 no such, first", () -> x.lastsIn(1, 61), 1);
        Check.refused(x, "18 61", () -> x.lastsIn(0, 61), 2);
        Check.refused(x, "18 -1", () -> x.lastsIn(0, -1), 2);
        BasketKeep y = Check.of(FARM);
        same("17 its good is lost before", y.wornIn(0), -2);
        same("17 no good in it", y.wornIn(1), -2);
        same("18 lasts as it does behind the loss", y.lastsIn(0, 60), 2);
        same("18 without a good", y.lastsIn(1, 60), 9);
    }

    private static void promise19to20KeptOutAndBusiest() {
        BasketKeep x = Check.of(FARM);
        Check.fine(x, "19 none yet", x.keptOut(0), 0);
        Check.fine(x, "19 one", x.keptOut(60), 1);
        Check.fine(x, "20 busiest", x.busiest(60), 0);
        Check.fine(x, "20 all alike: the first", x.busiest(0), 0);
        x.take(0);
        x.put(0, 1);
        same("20 none at all: the first", x.busiest(1) * 10 + x.keptOut(1), 11);
        Check.refused(x, "19 61", () -> x.keptOut(61), 2);
        Check.refused(x, "19 -1", () -> x.keptOut(-1), 2);
        Check.refused(x, "20 61", () -> x.busiest(61), 2);
        Check.refused(x, "20 -1", () -> x.busiest(-1), 2);
        BasketKeep y = Check.of("level hurry 0;danger a every 1 from 1;danger b every 1 from 1;maker m grave lasts 30 thinks a, b;"
            + "maker n grave lasts 30 thinks a, b;good g worth 1 fears a;good h worth 1 fears b;in g n;in h m");
        same("19 what isn't feared is kept out too", y.keptOut(3), 12);
        same("20 the first of like ones", y.busiest(3), 0);
        y.think(0, 0);
        same("19 one thought less", y.keptOut(3), 9);
        same("20 the other one", y.busiest(3), 1);
    }

    private static void promise21Worst() {
        BasketKeep x = Check.of(FARM);
        Check.fine(x, "21 none", x.worst(0), -2);
        Check.fine(x, "21 rain", x.worst(1), 0);
        Check.fine(x, "21 frost", x.worst(60), 1);
        x.year();
        x.year();
        same("21 only what is lost yet to come", x.worst(60), 2);
        same("21 nothing to come", x.worst(1), -2);
        Check.refused(x, "21 61", () -> x.worst(61), 2);
        Check.refused(x, "21 -1", () -> x.worst(-1), 2);
        BasketKeep y = Check.of("level hurry 0;danger a every 1 from 2;danger b every 1 from 1;maker m grave lasts 1 thinks a;"
            + "good g worth 3 fears b;good h worth 3 fears a");
        same("21 the first of like ones", y.worst(2), 0);
    }

    private static void promise22Still() {
        BasketKeep x = Check.of(FARM);
        Check.fine(x, "22 sixth", x.still(), 6);
        for (int i = 0; i < 5; i++) {
            x.year();
        }
        same("22 the very next", x.still(), 1);
        x.year();
        same("22 counted from now", x.still(), 4);
        same("22 none", Check.of(SMALL).still(), -2);
        BasketKeep y = Check.of("level hurry 0;danger a every 2 from 1;danger b every 3 from 1;danger c every 3 from 2;danger d every 4 from 2;"
            + "danger e every 5 from 1;danger f every 5 from 2;danger g every 5 from 3;danger h every 5 from 4;"
            + "maker m grave lasts 1 thinks a;good x worth 1 fears a");
        same("22 the sixtieth", y.still(), 60);
    }

    /** The order within a year: dangers by numbers, and what is worn keeps out nothing more of the same year. */
    private static void yearByYear() {
        BasketKeep x = Check.of("level hurry 0;danger a every 3 from 1;danger b every 3 from 1;maker m grave lasts 1 thinks a, b;"
            + "good g worth 1 fears b;in g m");
        same("worn by the first, lost by the second", x.lostIn(0) * 10 + x.lostBy(0), 11);
        same("worn within the year", x.wornIn(0), 1);
        same("kept out once", x.keptOut(60), 1);
        x.think(0, 0);
        same("without the vain thought", x.lostIn(0), 4);
        BasketKeep y = Check.of("level hurry 0;danger a every 1 from 1;maker m happy lasts 30 thinks a;good g worth 1 fears a;"
            + "danger b every 1 from 2;good h worth 1 fears b;in h m");
        same("what it doesn't fear leaves it in an odd year", y.lostIn(1) * 10 + y.lostBy(1), 21);
        same("kept out in even ones alone", y.keptOut(2), 1);
        BasketKeep z = Check.of("level hurry 0;danger a every 1 from 1;maker m hasty lasts 30 thinks a;good g worth 1 fears a;in g m");
        same("one thought of a hasty one", z.lostIn(0), 1);
    }

    private static void promise23to24Lay() {
        BasketKeep x = Check.of(FARM);
        Check.fine(x, "23 most", x.lay(4), 12);
        Check.fine(x, "24 egg in none", x.layAt(0, 4), -2);
        Check.fine(x, "24 pear", x.layAt(1, 4), 0);
        Check.fine(x, "24 hat", x.layAt(2, 4), 1);
        same("23 one year", x.lay(1), 22);
        same("24 none ahead of all", x.layAt(1, 1), -2);
        same("24 the first basket ahead", x.layAt(0, 1) * 10 + x.layAt(2, 1), 1);
        same("23 thirty years", x.lay(30), 0);
        x.year();
        same("24 a lost one", x.layAt(2, 1), -2);
        same("23 without it", x.lay(1), 17);
        same("24 the egg in cal's, where the hat is", x.layAt(0, 1), 2);
        Check.refused(x, "23 0", () -> x.lay(0), 2);
        Check.refused(x, "23 31", () -> x.lay(31), 2);
        Check.refused(x, "24 no such good", () -> x.layAt(3, 0), 1);
        Check.refused(x, "24 0", () -> x.layAt(0, 0), 2);
        Check.refused(x, "24 31", () -> x.layAt(0, 31), 2);
        BasketKeep y = Check.of("level hurry 0;danger d every 1 from 1;maker m grave lasts 9 thinks d;maker n grave lasts 9 thinks d;"
            + "good g worth 5 fears d;good h worth 5 fears d;good i worth 5 fears d");
        same("23 two of three", y.lay(9), 10);
        same("24 the first row", (y.layAt(0, 9) + 2) * 100 + (y.layAt(1, 9) + 2) * 10 + y.layAt(2, 9) + 2, 23);
    }

    private static void promise25WorthIf() {
        BasketKeep x = Check.of(FARM);
        Check.fine(x, "25 hat to bea", x.worthIf(2, 1, 3), 12);
        Check.fine(x, "25 where it is", x.worthIf(0, 0, 1), 17);
        Check.fine(x, "25 no years", x.worthIf(1, 1, 0), 22);
        same("25 nothing is done by it", x.good(2, 2), 2);
        Check.refused(x, "25 another one lies there", () -> x.worthIf(1, 0, 1), 5);
        Check.refused(x, "25 no such good", () -> x.worthIf(3, 0, 61), 1);
        Check.refused(x, "25 no such maker", () -> x.worthIf(0, 3, 61), 1);
        Check.refused(x, "25 61", () -> x.worthIf(1, 0, 61), 2);
        Check.refused(x, "25 -1", () -> x.worthIf(0, 0, -1), 2);
        x.year();
        Check.fine(x, "25 where a lost one lies", x.worthIf(0, 2, 1), 17);
        Check.refused(x, "25 it is lost", () -> x.worthIf(2, 1, 1), 5);
        Check.refused(x, "25 it is lost and there", () -> x.worthIf(2, 2, 1), 5);
    }

    private static void promise26Nest() {
        BasketKeep x = Check.of(FARM);
        Check.fine(x, "26 one alone", x.nest(0), 2);
        Check.fine(x, "26 the least bits", x.nest(1), 1);
        x.think(1, 1);
        same("26 two together", x.nest(0), 5);
        x.think(2, 1);
        same("26 all don't", x.nest(0), -2);
        x.year();
        same("26 a lost one", x.nest(2), 1);
        Check.refused(x, "26 no such", () -> x.nest(3), 1);
        Check.refused(x, "26 -1", () -> x.nest(-1), 1);
    }

    private static void promise27Besides() {
        BasketKeep x = Check.of(FARM);
        Check.fine(x, "27 nothing", x.besides(0, 1), 0);
        Check.fine(x, "27 frost", x.besides(0, 2), 2);
        Check.fine(x, "27 worn by then", x.besides(0, 5), -2);
        Check.fine(x, "27 no years", x.besides(2, 0), 0);
        Check.fine(x, "27 a happy one in year 1", x.besides(2, 1), -2);
        Check.refused(x, "27 in no basket", () -> x.besides(1, 1), 5);
        Check.refused(x, "27 no such", () -> x.besides(3, 61), 1);
        Check.refused(x, "27 61", () -> x.besides(1, 61), 2);
        Check.refused(x, "27 -1", () -> x.besides(0, -1), 2);
        x.year();
        Check.refused(x, "27 lost", () -> x.besides(2, 0), 5);
        BasketKeep y = Check.of("level hurry 0;danger a every 1 from 1;danger b every 9 from 30;danger c every 9 from 30;"
            + "maker m hasty lasts 30 thinks a;good g worth 1 fears a;in g m");
        same("27 a higher one besides, the least bits", y.besides(0, 29), 2);
    }

    private static void promise28to29VainAndOpen() {
        BasketKeep x = Check.of(FARM);
        Check.fine(x, "28 wasp", x.vain(0), 4);
        Check.fine(x, "28 all without a good", x.vain(1), 3);
        Check.fine(x, "28 all of it", x.vain(2), 14);
        x.year();
        x.think(2, 0);
        same("28 of a lost one", x.vain(2), 14);
        Check.refused(x, "28 no such", () -> x.vain(3), 1);
        Check.fine(x, "29 nothing", x.open(), 0);
        x.think(0, 2);
        x.think(2, 2);
        same("29 wasp", x.open(), 4);
        x.think(0, 0);
        x.think(1, 0);
        x.think(2, 0);
        same("29 rain, too", x.open(), 5);
        same("29 a lost one's, too", x.open() & x.good(2, 1), 1);
    }

    /** What befalls by which thoughts: the hat in year 1 always, the egg in year 2 unless abe thinks of frost. */
    private static void promise30to33Fits() {
        BasketKeep x = Check.of(FARM);
        Check.fine(x, "30 two", x.fits(), 2);
        Check.fine(x, "31 the first", x.fitAt(0), 0);
        Check.fine(x, "31 the second", x.fitAt(1), 2);
        Check.refused(x, "31 no third", () -> x.fitAt(2), 1);
        Check.refused(x, "31 -1", () -> x.fitAt(-1), 1);
        Check.fine(x, "32 could", x.could(), 2);
        Check.fine(x, "33 surely", x.surely(), 0);
        x.think(0, 1);
        x.take(0);
        x.year();
        same("30 as told, whatever was done", x.fits(), 2);
        BasketKeep y = Check.of(FARM.replace("egg year 2", "egg year 5"));
        same("30 abe thinks of frost", y.fits(), 2);
        same("31 both with it", y.fitAt(0) * 10 + y.fitAt(1), 13);
        same("33 surely he does", y.surely(), 1);
        same("32 the other one could be", y.could(), 3);
        BasketKeep z = Check.of(FARM.replace("egg year 2", "egg year 3"));
        same("30 no set", z.fits() * 100 + z.could() * 10 + z.surely(), 0);
        Check.refused(z, "31 none", () -> z.fitAt(0), 1);
        BasketKeep w = Check.of(SMALL + ";unsure m d");
        same("30 nothing befell: all", w.fits(), 2);
        same("30 nothing unsure, nothing befell", Check.of(SMALL).fits(), 1);
        same("31 the set of none", Check.of(SMALL).fitAt(0), 0);
        same("30 told otherwise", Check.of(SMALL + ";befell g year 4").fits(), 0);
        BasketKeep v = Check.of("level hurry 0;danger a every 9 from 1;danger b every 9 from 2;danger c every 1 from 3;"
            + "maker m grave lasts 2 thinks c;good g worth 1 fears c;in g m;unsure m a;unsure m b;befell g year 4");
        same("30 just one of two wears it", v.fits() * 100 + v.fitAt(0) * 10 + v.fitAt(1), 212);
        same("32 either could be", v.could(), 3);
        same("33 neither is sure", v.surely(), 0);
        same("30 told so", Check.of(SMALL + ";befell g year 3").fits(), 1);
    }

    private static void promise34to36AskAndJudge() {
        BasketKeep x = Check.of(FARM);
        Check.fine(x, "34 cal's", x.ask(), 1);
        Check.fine(x, "35 one is left", x.askLeaves(), 1);
        Check.fine(x, "36 all so", x.judge(), -2);
        BasketKeep y = Check.of(FARM.replace("egg year 2", "egg year 3"));
        Check.fine(y, "34 no fits", y.ask(), -2);
        Check.fine(y, "35 no fits", y.askLeaves(), -2);
        Check.fine(y, "36 the egg", y.judge(), 0);
        BasketKeep z = Check.of(FARM.replace("hat year 1", "hat year 2"));
        same("36 the hat", z.judge(), 2);
        z.think(2, 0);
        same("36 by thoughts as told", z.judge(), 2);
        BasketKeep w = Check.of(SMALL);
        same("34 no unsure thought", w.ask(), -2);
        same("35 no unsure thought", w.askLeaves(), -2);
        BasketKeep v = Check.of("level hurry 0;danger a every 1 from 1;danger b every 1 from 9;maker m grave lasts 9 thinks a;"
            + "maker n grave lasts 9 thinks a;good g worth 1 fears a;unsure m b;unsure n b;unsure m a");
        same("34 the first of like ones", v.ask(), 0);
        same("35 half of eight", v.askLeaves(), 4);
    }

    private static void promise37to39Weaves() {
        BasketKeep x = Check.of(SMALL);
        long[] ofThree = {6, 6, 18, 30, 66};
        for (int n = 2; n <= 6; n++) {
            Check.fine(x, "37 three withies " + n, x.weaves(n, 3), ofThree[n - 2]);
            Check.fine(x, "38 three withies " + n, x.weavesFrom(n, 3), ofThree[n - 2] / 3);
        }
        for (int k = 1; k <= 9; k++) {
            for (int n = 2; n <= 18; n++) {
                same("37 weaves " + n + " " + k, x.weaves(n, k), Oracle.ring(n, k));
                same("38 weaves " + n + " " + k, x.weavesFrom(n, k), Oracle.ring(n, k) / k);
            }
        }
        same("37 the most", x.weaves(18, 9), 18014398509481992L);
        same("37 one withy", x.weaves(2, 1), 0);
        same("37 two withies, odd", x.weaves(3, 2), 0);
        int[][] wrong = {{1, 3}, {19, 3}, {2, 0}, {2, 10}, {-1, -1}};
        for (int[] pair : wrong) {
            Check.refused(x, "37 number", () -> x.weaves(pair[0], pair[1]), 2);
            Check.refused(x, "38 number", () -> x.weavesFrom(pair[0], pair[1]), 2);
        }
        Check.fine(x, "39 of none", x.strokes(1, 0), 2);
        Check.fine(x, "39 never", x.strokes(1, 1), -2);
        Check.fine(x, "39 two withies", x.strokes(2, 2), 2);
        Check.fine(x, "39 two withies never", x.strokes(2, 3), -2);
        Check.fine(x, "39 just as many", x.strokes(3, 18), 4);
        Check.fine(x, "39 one more", x.strokes(3, 19), 5);
        Check.fine(x, "39 the most", x.strokes(9, 2_000_000_000), 11);
        Check.fine(x, "39 eighteen", x.strokes(3, 262146), 18);
        Check.fine(x, "39 none of so many", x.strokes(3, 262147), -2);
        Check.refused(x, "39 k 0", () -> x.strokes(0, 1), 2);
        Check.refused(x, "39 k 10", () -> x.strokes(10, 1), 2);
        Check.refused(x, "39 many -1", () -> x.strokes(1, -1), 2);
        Check.refused(x, "39 many", () -> x.strokes(1, 2_000_000_001), 2);
    }

    private static void promise40to42Gate() {
        BasketKeep x = Check.of(SMALL);
        for (int rust = 0; rust <= 9; rust++) {
            Check.fine(x, "40 both hold, the gate", x.holds(rust, true, true, false), -rust);
            Check.fine(x, "40 both hold, the man", x.holds(rust, true, true, true), -rust);
            Check.fine(x, "41 rests", x.rests(rust), 2);
            Check.fine(x, "42 the man holds", x.rest(rust), 1);
        }
        same("40 the gate alone", x.holds(4, true, false, false), 3);
        same("40 the man then", x.holds(4, true, false, true), 1);
        same("40 the man alone", x.holds(4, false, true, true), 3);
        same("40 the gate then", x.holds(4, false, true, false), 1);
        same("40 both give", x.holds(4, false, false, false) * 10 + x.holds(4, false, false, true), 22);
        Check.refused(x, "40 rust 10", () -> x.holds(10, true, true, true), -100, 2);
        Check.refused(x, "40 rust -1", () -> x.holds(-1, true, true, true), -100, 2);
        Check.refused(x, "41 rust 10", () -> x.rests(10), 2);
        Check.refused(x, "41 rust -1", () -> x.rests(-1), 2);
        Check.refused(x, "42 rust 10", () -> x.rest(10), 2);
        Check.refused(x, "42 rust -1", () -> x.rest(-1), 2);
    }

    private static void promise43to44Odds() {
        BasketKeep x = Check.of(FARM);
        Check.fine(x, "43 egg, upper", x.odds(0, 1, false), 1);
        Check.fine(x, "43 egg, lower", x.odds(0, 1, true), 2);
        Check.fine(x, "44 egg, upper", x.mean(0, 1, false), 5);
        Check.fine(x, "44 egg, lower", x.mean(0, 1, true), 1);
        same("43 pear, in none", x.odds(1, 3, false) * 10 + x.odds(1, 3, true), 11);
        same("44 pear, in none", x.mean(1, 3, false) * 10 + x.mean(1, 3, true), 71);
        same("43 pear, lost", x.odds(1, 4, false) * 10 + x.odds(1, 4, true), 1);
        same("44 pear, lost", x.mean(1, 4, false) * 10 + x.mean(1, 4, true), 1);
        same("43 hat, lost for sure", x.odds(2, 1, false) * 10 + x.odds(2, 1, true), 1);
        x.year();
        same("43 lost now", x.odds(2, 0, false) * 10 + x.odds(2, 0, true), 1);
        same("44 lost now", x.mean(2, 0, false) * 10 + x.mean(2, 0, true), 1);
        Check.refused(x, "43 no such", () -> x.odds(3, 61, true), 1);
        Check.refused(x, "43 61", () -> x.odds(0, 61, true), 2);
        Check.refused(x, "43 -1", () -> x.odds(0, -1, true), 2);
        Check.refused(x, "44 no such", () -> x.mean(-1, 61, true), 1);
        Check.refused(x, "44 61", () -> x.mean(0, 61, true), 2);
        Check.refused(x, "44 -1", () -> x.mean(0, -1, true), 2);
        BasketKeep y = Check.of("level hurry 33;danger a every 1 from 1;danger b every 1 from 1;danger c every 1 from 1;danger d every 1 from 1;"
            + "danger e every 1 from 1;danger f every 1 from 1;danger g every 1 from 1;danger h every 1 from 1;"
            + "maker m grave lasts 30 thinks a,b,c,d,e,f,g,h;good x worth 99 fears a,b,c,d,e,f,g,h;in x m");
        same("43 eight thoughts, upper", y.odds(0, 1, false), 406067677556641L);
        same("43 eight thoughts, lower", y.odds(0, 1, true), 10000000000000000L);
        same("44 eight thoughts, upper", y.mean(0, 1, false), 99 * 406067677556641L);
        same("43 none slips", Check.of(SMALL).odds(0, 2, false), 1);
        BasketKeep z = Check.of("level hurry 20;danger a every 1 from 1;danger b every 1 from 1;maker m hasty lasts 30 thinks a, b;"
            + "good g worth 1 fears a;in g m");
        same("43 the highest is by all he thinks of", z.odds(0, 9, false) * 10 + z.odds(0, 9, true), 45);
        BasketKeep w = Check.of("level hurry 20;danger a every 1 from 1;danger b every 1 from 1;maker m grave lasts 2 thinks a, b;"
            + "good g worth 5 fears b;in g m");
        same("43 a vain thought that slips wears nothing, upper", w.odds(0, 2, false), 4);
        same("43 a vain thought that slips wears nothing, lower", w.odds(0, 2, true), 25);
        same("44 by five, lower", w.mean(0, 2, false) * 10 + w.mean(0, 2, true), 45);
        same("43 all slip", Check.of(SMALL.replace("hurry 0", "hurry 100")).odds(0, 1, false), 0);
    }

    /** From SEED 0 the draws are 74, 24, 52, 90, 41, 9, 31 mod 100: abe's wasp and all three of cal slip below 50. */
    private static void promise45to46Draws() {
        BasketKeep x = Check.of(FARM);
        Check.fine(x, "46 four slip", x.slips(0), 4);
        Check.fine(x, "45 the egg stays", x.drawn(0, 1), 17);
        Check.fine(x, "45 no years", x.drawn(65536, 0), 22);
        x.think(0, 0);
        same("46 what he thinks of now: 74 is the wasp's, 24 rain's, 52 frost's", x.slips(0), 3);
        x.think(0, 0);
        same("46 as before", x.slips(0), 4);
        long seed = 65536;
        int below = 0;
        for (int i = 0; i < 7; i++) {
            seed = (75 * seed + 74) % 65537;
            below += seed % 100 < 50 ? 1 : 0;
        }
        same("46 the highest seed", x.slips(65536), below);
        Check.refused(x, "45 seed -1", () -> x.drawn(-1, 0), 2);
        Check.refused(x, "45 seed", () -> x.drawn(65537, 0), 2);
        Check.refused(x, "45 61", () -> x.drawn(0, 61), 2);
        Check.refused(x, "45 -1", () -> x.drawn(0, -1), 2);
        Check.refused(x, "46 seed -1", () -> x.slips(-1), 2);
        Check.refused(x, "46 seed", () -> x.slips(65537), 2);
        same("46 hurry 0", Check.of(SMALL).slips(7), 0);
        same("46 hurry 100", Check.of(SMALL.replace("hurry 0", "hurry 100")).slips(7), 1);
        same("46 just not below", Check.of(SMALL.replace("hurry 0", "hurry 74")).slips(0), 0);
        same("46 just below", Check.of(SMALL.replace("hurry 0", "hurry 75")).slips(0), 1);
        same("45 lost by the slip", Check.of(SMALL.replace("hurry 0", "hurry 75")).drawn(0, 1), 0);
    }

    private static void promise47Year() {
        BasketKeep x = Check.of(FARM);
        Check.fine(x, "47 the hat", x.year(), 4);
        Check.fine(x, "47 the egg", x.year(), 1);
        Check.fine(x, "47 none", x.year(), 0);
        Check.fine(x, "47 the pear", x.year(), 2);
        same("47 years", x.size(7), 4);
        same("47 basket", x.maker(0, 1), 2);
        BasketKeep y = Check.of(FARM);
        y.think(2, 0);
        y.year();
        same("47 a happy one keeps nothing out in year 1", y.good(2, 3), 1);
        BasketKeep z = Check.of(FARM);
        z.year();
        z.undo();
        z.put(2, 1);
        same("47 the hat in bea's", z.year(), 0);
        // No run of 512 calls comes so far, but the bound is the document's.
        for (int i = 1; i < 999; i++) {
            z.year();
        }
        same("47 all of them", z.size(7), 999);
        Check.refused(z, "47 999 went by", z::year, 3);
        same("47 no more", z.size(7), 999);
    }

    private static void promise48to49PutAndTake() {
        BasketKeep x = Check.of(FARM);
        Check.fine(x, "48 from none", x.put(1, 1), -2);
        same("48 lies there", x.good(1, 2) * 10 + x.maker(1, 3), 11);
        Check.refused(x, "48 one lies there", () -> x.put(0, 1), 5);
        Check.refused(x, "48 it lies there itself", () -> x.put(1, 1), 5);
        Check.fine(x, "49 taken", x.take(1), 1);
        Check.refused(x, "49 in none", () -> x.take(1), 5);
        Check.fine(x, "48 from abe's", x.put(0, 1), 0);
        same("48 abe's is empty", x.maker(0, 3), -2);
        x.year();
        Check.refused(x, "48 it is lost", () -> x.put(2, 0), 5);
        Check.refused(x, "48 a lost one lies there", () -> x.put(1, 2), 5);
        Check.fine(x, "49 a lost one", x.take(2), 2);
        Check.fine(x, "48 empty then", x.put(1, 2), -2);
        Check.refused(x, "48 no such good", () -> x.put(3, 0), 1);
        Check.refused(x, "48 good -1", () -> x.put(-1, 0), 1);
        Check.refused(x, "48 no such maker", () -> x.put(0, 3), 1);
        Check.refused(x, "48 maker -1", () -> x.put(0, -1), 1);
        Check.refused(x, "48 maker -2", () -> x.put(0, -2), 1);
        Check.refused(x, "49 no such good", () -> x.take(3), 1);
        Check.refused(x, "49 good -1", () -> x.take(-1), 1);
    }

    private static void promise50Think() {
        BasketKeep x = Check.of(FARM);
        Check.fine(x, "50 one more", x.think(0, 1), 7);
        Check.fine(x, "50 no more of it", x.think(0, 0), 6);
        same("50 now", x.maker(0, 2), 6);
        x.think(0, 1);
        Check.fine(x, "50 of none", x.think(0, 2), 0);
        Check.refused(x, "50 no such maker", () -> x.think(3, 0), 1);
        Check.refused(x, "50 maker -1", () -> x.think(-1, 0), 1);
        Check.refused(x, "50 no such danger", () -> x.think(0, 4), 1);
        Check.refused(x, "50 danger -1", () -> x.think(0, -1), 1);
    }

    private static void promise51Mend() {
        BasketKeep x = Check.of(SMALL);
        Check.refused(x, "51 as told", () -> x.mend(0) ? 1 : 0, 0, 5);
        x.year();
        x.year();
        Check.fine(x, "51 mended", x.mend(0) ? 1 : 0, 1);
        same("51 lasts as told", x.maker(0, 1), 2);
        same("51 keeps out again", x.lostIn(0), 3);
        Check.refused(x, "51 no such", () -> x.mend(1) ? 1 : 0, 0, 1);
        Check.refused(x, "51 -1", () -> x.mend(-1) ? 1 : 0, 0, 1);
    }

    private static void promise52Undo() {
        BasketKeep x = Check.of(FARM);
        Check.refused(x, "52 nothing", () -> x.undo() ? 1 : 0, 0, 6);
        x.year();
        x.take(0);
        x.put(0, 1);
        x.think(0, 0);
        x.mend(0);
        same("52 five acts", x.size(8), 5);
        x.put(0, 1);
        x.year();
        x.worth();
        same("52 a refused one is none", x.size(8), 6);
        x.undo();
        Check.fine(x, "52 mending", x.undo() ? 1 : 0, 1);
        same("52 unmended", x.maker(0, 1), 2);
        x.undo();
        same("52 thinks again", x.maker(0, 2), 5);
        x.undo();
        same("52 in none", x.good(0, 2), -2);
        x.undo();
        same("52 in abe's", x.good(0, 2), 0);
        x.undo();
        same("52 as told", x.worth() * 10 + x.size(7), 220);
        Check.refused(x, "52 no more", () -> x.undo() ? 1 : 0, 0, 6);
        for (int i = 0; i < 20; i++) {
            x.year();
        }
        same("52 sixteen are kept", x.size(8), 16);
        for (int i = 0; i < 16; i++) {
            Check.same("52 undo " + i, x.undo(), true);
        }
        same("52 four are for good", x.size(7), 4);
        Check.refused(x, "52 no seventeenth", () -> x.undo() ? 1 : 0, 0, 6);
    }

    private static void promise53to54Images() {
        BasketKeep x = Check.of(FARM);
        Check.fine(x, "53 the first", x.image(), 0);
        x.year();
        x.think(1, 3);
        Check.fine(x, "53 the second", x.image(), 1);
        same("53 acts stay", x.size(8), 2);
        x.undo();
        same("53 images stay behind undo", x.size(9), 2);
        x.take(0);
        Check.fine(x, "53 the third", x.image(), 2);
        Check.refused(x, "53 no fourth", x::image, 3);
        Check.fine(x, "54 the first", x.back(0) ? 1 : 0, 1);
        same("54 all as then", x.worth() * 100 + x.size(7) * 10 + x.good(0, 2), 2200);
        same("54 nothing to undo", x.size(8), 0);
        Check.refused(x, "54 no undo", () -> x.undo() ? 1 : 0, 0, 6);
        same("54 images stay", x.size(9), 3);
        Check.fine(x, "54 the second", x.back(1) ? 1 : 0, 1);
        same("54 thoughts as then", x.maker(1, 2), 11);
        same("54 lost as then", x.good(2, 3) * 10 + x.maker(0, 1), 12);
        Check.fine(x, "54 the third", x.back(2) ? 1 : 0, 1);
        same("54 taken as then", x.good(0, 2), -2);
        x.year();
        x.back(2);
        same("54 once more", x.size(7), 1);
        Check.refused(x, "54 no such", () -> x.back(3) ? 1 : 0, 0, 1);
        Check.refused(x, "54 -1", () -> x.back(-1) ? 1 : 0, 0, 1);
        Check.tell(x, SMALL);
        Check.refused(x, "54 gone with the level", () -> x.back(0) ? 1 : 0, 0, 1);
    }

    private static void promise55Led() {
        BasketKeep x = Check.of(FARM);
        same("55 none", Bounds.led(x, 0), -7);
        x.year();
        same("55 the hat", Bounds.led(x, 0), 2);
        same("55 no more", Bounds.led(x, 1), -7);
        x.year();
        same("55 by numbers", Bounds.led(x, 0) * 10 + Bounds.led(x, 1), 2);
        same("55 -1", Bounds.led(x, -1), -7);
        same("55 far", Bounds.led(x, Integer.MAX_VALUE), -7);
        same("55 no level", Bounds.led(new BasketKeep(), 0), -7);
    }

    private static void promise56Size() {
        BasketKeep x = Check.of(FARM);
        int[] due = {50, 4, 3, 3, 2, 2, 2, 0, 0, 0, 0};
        for (int what = 0; what < due.length; what++) {
            same("56 size " + what, x.size(what), due[what]);
        }
        x.year();
        x.put(1, 1);
        x.image();
        x.feed(0, 0, 0, 0, 0);
        int[] then = {50, 4, 3, 3, 3, 2, 2, 1, 2, 1, 20};
        for (int what = 0; what < then.length; what++) {
            same("56 then size " + what, x.size(what), then[what]);
        }
        same("56 others", x.size(11) + x.size(-1) + x.size(Integer.MIN_VALUE), -3);
    }

    private static void promise57Trouble() {
        BasketKeep x = Check.of(FARM);
        x.strikes(0);
        x.size(99);
        x.fault();
        x.where();
        Bounds.led(x, 9);
        x.feed(0, 0, 0, 0, 0);
        same("57 of the latest that may be refused", x.trouble(), 2);
        same("57 telling it changes nothing", x.trouble(), 2);
        x.worth();
        same("57 it wasn't", x.trouble(), 0);
        x.keepsOut(9, 0);
        same("57 the first that is told", x.trouble(), 1);
        x.worthIf(1, 0, 99);
        same("57 the number ahead of what isn't so", x.trouble(), 2);
    }
}
