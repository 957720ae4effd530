import java.util.ArrayList;
import java.util.List;

/**
 * Promises 6 to 57: for each call and each of its numbers the last that is taken and the first that is refused on each
 * side, the answer of the refused call and its trouble, and that nothing is otherwise behind it.
 */
public final class CallBoundsTest {
    private static final int MIN = Integer.MIN_VALUE;
    private static final int MAX = Integer.MAX_VALUE;

    interface Numbered {
        long on(BasketKeep x, int number);
    }

    public static void main(String[] args) {
        withoutALevel();
        dangers();
        makers();
        goods();
        whats();
        years();
        spans();
        laySpans();
        weaves();
        rust();
        seeds();
        fitNumbers();
        images();
        firstOfTwoTroubles();
        troubleOfTheLatest();
        tellingChangesNothing();
        sizes();
        Check.end("CallBoundsTest");
    }

    /** Refused by 1, even with numbers that would be refused by 2. */
    private static void withoutALevel() {
        for (int n : new int[] {0, 1, -1, 2, 61, 1000, MIN, MAX}) {
            for (Bounds.Call call : ofNone(n)) {
                Bounds.refuses("no level, " + n, Bounds::none, call, Bounds.NO_SUCH);
            }
            Bounds.refuses("40 no level, " + n, Bounds::none, x -> x.holds(n, true, true, true), -100, Bounds.NO_SUCH);
            Bounds.refuses("51 no level, " + n, Bounds::none, x -> Bounds.one(x.mend(n)), 0, Bounds.NO_SUCH);
            Bounds.refuses("54 no level, " + n, Bounds::none, x -> Bounds.one(x.back(n)), 0, Bounds.NO_SUCH);
            Check.same("55 no level, " + n, Bounds.led(new BasketKeep(), n), -7);
        }
        Bounds.refuses("52 no level", Bounds::none, x -> Bounds.one(x.undo()), 0, Bounds.NOTHING);
        BasketKeep x = new BasketKeep();
        Check.same("57 of a new object", x.trouble(), 0);
        for (int what = 0; what <= 10; what++) {
            Check.same("56 what there isn't: " + what, x.size(what), 0);
        }
        Check.same("56 others", x.size(-1) + x.size(11), -2);
    }

    private static List<Bounds.Call> ofNone(int n) {
        List<Bounds.Call> all = new ArrayList<>(List.of(x -> x.danger(n, 0), x -> x.danger(0, n), x -> x.maker(n, 0), x -> x.maker(0, n),
            x -> x.good(n, 0), x -> x.good(0, n), x -> x.strikes(n), x -> x.keepsOut(n, 1), x -> x.keepsOut(0, n)));
        all.addAll(List.of(x -> x.worth(), x -> x.strikesNext(n), x -> x.worthIn(n), x -> x.lost(n), x -> x.lostIn(n),
            x -> x.lostBy(n), x -> x.wornIn(n), x -> x.lastsIn(n, n), x -> x.lastsIn(0, n)));
        all.addAll(List.of(x -> x.keptOut(n), x -> x.busiest(n), x -> x.worst(n), x -> x.still(), x -> x.lay(n),
            x -> x.layAt(n, n), x -> x.layAt(0, n), x -> x.worthIf(n, n, n), x -> x.worthIf(0, 0, n)));
        all.addAll(List.of(x -> x.nest(n), x -> x.besides(n, n), x -> x.besides(0, n), x -> x.vain(n), x -> x.open(),
            x -> x.fits(), x -> x.fitAt(n), x -> x.could(), x -> x.surely(), x -> x.ask()));
        all.addAll(List.of(x -> x.askLeaves(), x -> x.judge(), x -> x.weaves(n, n), x -> x.weaves(2, n), x -> x.weavesFrom(n, n),
            x -> x.strokes(n, n), x -> x.strokes(1, n), x -> x.rests(n), x -> x.rest(n)));
        all.addAll(List.of(x -> x.odds(n, n, true), x -> x.odds(0, n, false), x -> x.mean(n, n, true), x -> x.mean(0, n, false),
            x -> x.drawn(n, n), x -> x.drawn(0, n), x -> x.slips(n), x -> x.year(), x -> x.image()));
        all.addAll(List.of(x -> x.put(n, n), x -> x.put(0, n), x -> x.take(n), x -> x.think(n, n), x -> x.think(0, n)));
        return all;
    }

    interface Prepare {
        void on(BasketKeep x, int number);
    }

    /** Numbers what there is from 0: so many on each of three levels. */
    private static void suchAs(String name, Numbered call, int small, int farm, int wide) {
        suchAs(name, (x, i) -> { }, call, -1, small, farm, wide);
    }

    /** What is prepared for a number that is taken, is not done for one that is refused. */
    private static void suchAs(String name, Prepare prepare, Numbered call, long refusal, int... counts) {
        String[] texts = {Bounds.SMALL, Bounds.FARM, Bounds.WIDE};
        for (int at = 0; at < texts.length; at++) {
            String text = texts[at];
            int count = counts[at];
            for (int i : new int[] {0, count - 1}) {
                BasketKeep x = Check.of(text);
                prepare.on(x, i);
                Bounds.setTrouble(x, Bounds.NUMBER);
                Check.same(name + " " + i + " of " + count + " is refused", call.on(x, i) == refusal, false);
                Check.same(name + " " + i + " of " + count + " trouble", x.trouble(), 0);
            }
            for (int i : new int[] {-1, -2, count, count + 1, 8, 31, 32, MIN, MAX}) {
                Bounds.refuses(name + " " + i + " of " + count, () -> Check.of(text), x -> call.on(x, i), refusal, Bounds.NO_SUCH);
            }
        }
    }

    private static void dangers() {
        for (int what = 0; what <= 3; what++) {
            int w = what;
            suchAs("6 danger what " + w, (x, d) -> x.danger(d, w), 1, 4, 8);
        }
        suchAs("12 strikesNext", (x, d) -> x.strikesNext(d), 1, 4, 8);
        suchAs("50 think of", (x, d) -> x.think(0, d), 1, 4, 8);
    }

    private static void makers() {
        for (int what = 0; what <= 3; what++) {
            int w = what;
            suchAs("7 maker what " + w, (x, m) -> x.maker(m, w), 1, 3, 5);
        }
        suchAs("10 keepsOut", (x, m) -> x.keepsOut(m, 1), 1, 3, 5);
        suchAs("17 wornIn", (x, m) -> x.wornIn(m), 1, 3, 5);
        suchAs("18 lastsIn", (x, m) -> x.lastsIn(m, 0), 1, 3, 5);
        suchAs("25 worthIf into", (x, m) -> takeAll(x), (x, m) -> x.worthIf(0, m, 0), -1, 1, 3, 5);
        suchAs("28 vain", (x, m) -> x.vain(m), 1, 3, 5);
        suchAs("48 put into", (x, m) -> takeAll(x), (x, m) -> x.put(0, m), -1, 1, 3, 5);
        suchAs("50 think", (x, m) -> x.think(m, 0), 1, 3, 5);
        suchAs("51 mend", CallBoundsTest::wear, (x, m) -> Bounds.one(x.mend(m)), 0, 1, 3, 5);
    }

    private static void takeAll(BasketKeep x) {
        for (int g = 0; g < x.size(3); g++) {
            x.take(g);
        }
    }

    /** By a good that isn't lost before his basket keeps something out. */
    private static void wear(BasketKeep x, int m) {
        takeAll(x);
        x.put(x.size(3) / 2, m);
        for (int d = 0; d < x.size(1); d++) {
            if ((x.maker(m, 2) >> d & 1) == 0) {
                x.think(m, d);
            }
        }
        int told = x.maker(m, 1);
        for (int i = 0; i < 30 && x.maker(m, 1) == told; i++) {
            x.year();
        }
    }

    private static void goods() {
        for (int what = 0; what <= 3; what++) {
            int w = what;
            suchAs("8 good what " + w, (x, g) -> x.good(g, w), 1, 3, 4);
        }
        suchAs("15 lostIn", (x, g) -> x.lostIn(g), 1, 3, 4);
        suchAs("16 lostBy", (x, g) -> x.lostBy(g), 1, 3, 4);
        suchAs("24 layAt", (x, g) -> x.layAt(g, 1), 1, 3, 4);
        suchAs("25 worthIf of", (x, g) -> takeAll(x), (x, g) -> x.worthIf(g, 0, 0), -1, 1, 3, 4);
        suchAs("26 nest", (x, g) -> x.nest(g), 1, 3, 4);
        suchAs("27 besides", CallBoundsTest::putAlone, (x, g) -> x.besides(g, 0), -1, 1, 3, 4);
        suchAs("43 odds", (x, g) -> x.odds(g, 0, false), 1, 3, 4);
        suchAs("43 odds, lower", (x, g) -> x.odds(g, 0, true), 1, 3, 4);
        suchAs("44 mean", (x, g) -> x.mean(g, 0, false), 1, 3, 4);
        suchAs("44 mean, lower", (x, g) -> x.mean(g, 0, true), 1, 3, 4);
        suchAs("48 put", (x, g) -> takeAll(x), (x, g) -> x.put(g, 0), -1, 1, 3, 4);
        suchAs("49 take", CallBoundsTest::putAlone, (x, g) -> x.take(g), -1, 1, 3, 4);
    }

    private static void putAlone(BasketKeep x, int g) {
        takeAll(x);
        x.put(g, 0);
    }

    /** What of a danger, a maker, a good: 0 to 3. */
    private static void whats() {
        for (int w : new int[] {-1, 4, 5, MIN, MAX}) {
            Bounds.refuses("6 what " + w, Bounds::used, x -> x.danger(0, w), Bounds.NO_SUCH);
            Bounds.refuses("7 what " + w, Bounds::used, x -> x.maker(0, w), Bounds.NO_SUCH);
            Bounds.refuses("8 what " + w, Bounds::used, x -> x.good(0, w), Bounds.NO_SUCH);
        }
        Bounds.takes("6 what 0", Bounds::used, x -> x.danger(3, 0), 9);
        Bounds.takes("6 what 3", Bounds::used, x -> x.danger(3, 3), 4);
        Bounds.takes("7 what 0", Bounds::used, x -> x.maker(2, 0), 2);
        Bounds.takes("7 what 3", Bounds::used, x -> x.maker(2, 3), 2);
        Bounds.takes("8 what 0", Bounds::used, x -> x.good(2, 0), 5);
        Bounds.takes("8 what 3", Bounds::used, x -> x.good(2, 3), 1);
    }

    /** A number of its own from the least to the most, refused by 2 outside them. */
    private static void within(String name, Numbered call, long refusal, int least, int most) {
        for (String text : new String[] {Bounds.SMALL, Bounds.FARM, Bounds.WIDE}) {
            for (int n : new int[] {least, most}) {
                Bounds.tells(name + " " + n, () -> Check.of(text), x -> call.on(x, n), refusal);
            }
        }
        for (int n : new int[] {least - 1, most + 1, MIN, MAX}) {
            Bounds.refuses(name + " " + n, Bounds::used, x -> call.on(x, n), refusal, Bounds.NUMBER);
        }
    }

    private static void years() {
        within("9 strikes", (x, n) -> x.strikes(n), -1, 1, 999);
        within("10 keepsOut", (x, n) -> x.keepsOut(0, n), -1, 1, 999);
        Bounds.takes("9 the first year", Bounds::farm, x -> x.strikes(1), 1);
        Bounds.takes("9 the last year: rain alone", Bounds::farm, x -> x.strikes(999), 1);
        Bounds.takes("9 rot in 30, 39, .. 993, as 30 + 9 * 107", Bounds::farm, x -> x.strikes(993) >> 3, 1);
        Bounds.takes("10 a happy one in the first year", Bounds::farm, x -> x.keepsOut(2, 1), 0);
        Bounds.takes("10 a happy one in the last even year", Bounds::farm, x -> x.keepsOut(2, 998), 14);
        Bounds.takes("10 a happy one in the last year", Bounds::farm, x -> x.keepsOut(2, 999), 0);
    }

    private static void spans() {
        within("13 worthIn", (x, n) -> x.worthIn(n), -1, 0, 60);
        within("14 lost", (x, n) -> x.lost(n), -1, 0, 60);
        within("18 lastsIn", (x, n) -> x.lastsIn(0, n), -1, 0, 60);
        within("19 keptOut", (x, n) -> x.keptOut(n), -1, 0, 60);
        within("20 busiest", (x, n) -> x.busiest(n), -1, 0, 60);
        within("21 worst", (x, n) -> x.worst(n), -1, 0, 60);
        within("25 worthIf", (x, n) -> x.worthIf(0, 0, n), -1, 0, 60);
        within("27 besides", (x, n) -> x.besides(0, n), -1, 0, 60);
        within("43 odds", (x, n) -> x.odds(0, n, false), -1, 0, 60);
        within("44 mean", (x, n) -> x.mean(0, n, true), -1, 0, 60);
        within("45 drawn", (x, n) -> x.drawn(0, n), -1, 0, 60);
        lastYearOfSpans();
    }

    /** Kept out in 2, 4, .. 58, so that it is worn by 58; lost in the 60th year, and not before. */
    private static void lastYearOfSpans() {
        String text = "level hurry 0;danger d every 2 from 2;maker m grave lasts 29 thinks d;good g worth 9 fears d;in g m";
        spanEnds("13", text, x -> x.worthIn(59), 9, x -> x.worthIn(60), 0);
        spanEnds("14", text, x -> x.lost(59), 0, x -> x.lost(60), 1);
        spanEnds("18", text.replace("29", "30"), x -> x.lastsIn(0, 59), 1, x -> x.lastsIn(0, 60), 0);
        spanEnds("18 none", text, x -> x.lastsIn(0, 0), 29, x -> x.lastsIn(0, 2), 28);
        spanEnds("19", text.replace("29", "30"), x -> x.keptOut(59), 29, x -> x.keptOut(60), 30);
        String twice = text.replace("29", "30") + ";maker n grave lasts 30 thinks d;good h worth 1 fears d;in h n";
        spanEnds("19 two baskets", twice, x -> x.keptOut(59), 58, x -> x.keptOut(60), 60);
        spanEnds("19 none", text, x -> x.keptOut(0), 0, x -> x.keptOut(2), 1);
        spanEnds("21", text, x -> x.worst(59), -2, x -> x.worst(60), 0);
        spanEnds("21 none", text.replace("from 2", "from 1").replace("grave", "happy"), x -> x.worst(0), -2, x -> x.worst(1), 0);
        spanEnds("25", text, x -> x.worthIf(0, 0, 59), 9, x -> x.worthIf(0, 0, 60), 0);
        spanEnds("27", text, x -> x.besides(0, 59), 0, x -> x.besides(0, 60), -2);
        spanEnds("43", text, x -> x.odds(0, 59, false), 1, x -> x.odds(0, 60, false), 0);
        spanEnds("44", text, x -> x.mean(0, 59, false), 9, x -> x.mean(0, 60, false), 0);
        spanEnds("45", text, x -> x.drawn(0, 59), 9, x -> x.drawn(0, 60), 0);
        // m's in 11, 17, .. 59, nine times; n's in 6, 12, .. 54, nine times, and in the 60th year.
        String two = "level hurry 0;danger d every 6 from 6;danger e every 6 from 11;maker m grave lasts 30 thinks e;"
            + "maker n grave lasts 30 thinks d;good g worth 9 fears e;good h worth 9 fears d;in g m;in h n";
        spanEnds("20 of like ones the first", two, x -> x.busiest(59), 0, x -> x.busiest(60), 1);
        spanEnds("20 within no years none: the first", two, x -> x.busiest(0), 0, x -> x.busiest(6), 1);
    }

    private static void spanEnds(String name, String text, Bounds.Call last, long dueLast, Bounds.Call end, long dueEnd) {
        Bounds.takes(name + " not yet", () -> Check.of(text), last, dueLast);
        Bounds.takes(name + " by then", () -> Check.of(text), end, dueEnd);
    }

    private static void laySpans() {
        within("23 lay", (x, n) -> x.lay(n), -1, 1, 30);
        within("24 layAt", (x, n) -> x.layAt(0, n), -1, 1, 30);
        String text = "level hurry 0;danger d every 9 from 30;maker m hasty lasts 1 thinks d;maker n grave lasts 1 thinks d;good g worth 9 fears d";
        spanEnds("23 the 30th year", text, x -> x.lay(29), 9, x -> x.lay(30), 9);
        spanEnds("24 the 30th year", text, x -> x.layAt(0, 29), -2, x -> x.layAt(0, 30), 1);
        String bare = text.replace("grave", "hasty");
        spanEnds("23 the 30th year, none keeps it out", bare, x -> x.lay(29), 9, x -> x.lay(30), 0);
        String first = bare.replace("every 9 from 30", "every 1 from 1").replace("n hasty", "n grave");
        spanEnds("23 the first year", first, x -> x.lay(1), 9, x -> x.lay(2), 0);
        spanEnds("24 the first year", first, x -> x.layAt(0, 1), 1, x -> x.layAt(0, 2), -2);
    }

    private static void weaves() {
        within("37 weaves n", (x, n) -> x.weaves(n, 3), -1, 2, 18);
        within("37 weaves k", (x, k) -> x.weaves(4, k), -1, 1, 9);
        within("38 weavesFrom n", (x, n) -> x.weavesFrom(n, 3), -1, 2, 18);
        within("38 weavesFrom k", (x, k) -> x.weavesFrom(4, k), -1, 1, 9);
        within("39 strokes k", (x, k) -> x.strokes(k, 0), -1, 1, 9);
        within("39 strokes many", (x, many) -> x.strokes(9, many), -1, 0, 2_000_000_000);
        Bounds.takes("37 fewest strokes and withies", Bounds::small, x -> x.weaves(2, 1), 0);
        Bounds.takes("37 fewest strokes by two", Bounds::small, x -> x.weaves(2, 2), 2);
        Bounds.takes("37 the last and the first, too", Bounds::small, x -> x.weaves(3, 2), 0);
        Bounds.takes("37 fewest strokes by nine", Bounds::small, x -> x.weaves(2, 9), 72);
        Bounds.takes("37 most strokes by one", Bounds::small, x -> x.weaves(18, 1), 0);
        Bounds.takes("37 most strokes by two", Bounds::small, x -> x.weaves(18, 2), 2);
        Bounds.takes("37 most of all: 8 to the 18th and 8", Bounds::small, x -> x.weaves(18, 9), 18014398509481992L);
        Bounds.takes("38 of none", Bounds::small, x -> x.weavesFrom(2, 1), 0);
        Bounds.takes("38 most of all, a ninth", Bounds::small, x -> x.weavesFrom(18, 9), 2001599834386888L);
        Bounds.takes("39 two of none", Bounds::small, x -> x.strokes(1, 0), 2);
        Bounds.takes("39 two of none by nine", Bounds::small, x -> x.strokes(9, 0), 2);
        Bounds.takes("39 one of one withy: never", Bounds::small, x -> x.strokes(1, 1), -2);
        Bounds.takes("39 just as many", Bounds::small, x -> x.strokes(3, 6), 2);
        Bounds.takes("39 one more", Bounds::small, x -> x.strokes(3, 7), 4);
        Bounds.takes("39 the 18th: 2 to the 18th and 2", Bounds::small, x -> x.strokes(3, 262146), 18);
        Bounds.takes("39 one more than that", Bounds::small, x -> x.strokes(3, 262147), -2);
        Bounds.takes("39 the most: 8 to the 10th is fewer, to the 11th more", Bounds::small, x -> x.strokes(9, 2_000_000_000), 11);
        Bounds.takes("39 the most by six: 5 to the 13th is fewer, to the 14th more", Bounds::small, x -> x.strokes(6, 2_000_000_000), 14);
    }

    private static void rust() {
        within("40 holds", (x, rust) -> x.holds(rust, true, true, false), -100, 0, 9);
        within("40 holds, the man", (x, rust) -> x.holds(rust, false, false, true), -100, 0, 9);
        within("41 rests", (x, rust) -> x.rests(rust), -1, 0, 9);
        within("42 rest", (x, rust) -> x.rest(rust), -1, 0, 9);
        Bounds.takes("40 no rust", Bounds::small, x -> x.holds(0, true, true, false), 0);
        Bounds.takes("40 one: no refusal", Bounds::small, x -> x.holds(1, true, true, false), -1);
        Bounds.takes("40 most rust", Bounds::small, x -> x.holds(9, true, true, true), -9);
        for (int rust : new int[] {0, 9}) {
            Bounds.takes("40 the gate alone: 3", Bounds::small, x -> x.holds(rust, true, false, false), 3);
            Bounds.takes("40 the man then: 1", Bounds::small, x -> x.holds(rust, true, false, true), 1);
            Bounds.takes("40 the man alone: 3", Bounds::small, x -> x.holds(rust, false, true, true), 3);
            Bounds.takes("40 the gate then: 1", Bounds::small, x -> x.holds(rust, false, true, false), 1);
            Bounds.takes("40 both give: the gate 2", Bounds::small, x -> x.holds(rust, false, false, false), 2);
            Bounds.takes("40 both give: the man 2", Bounds::small, x -> x.holds(rust, false, false, true), 2);
            Bounds.takes("41 who holds alone rests, either", Bounds::small, x -> x.rests(rust), 2);
            Bounds.takes("42 giving ahead, the gate's first", Bounds::small, x -> x.rest(rust), 1);
        }
    }

    private static void seeds() {
        within("45 drawn seed", (x, seed) -> x.drawn(seed, 1), -1, 0, 65536);
        within("46 slips seed", (x, seed) -> x.slips(seed), -1, 0, 65536);
        // (75 * 65,536 + 74) mod 65,537 is 65,536 as 75 * -1 + 74 is -1: it stays there, 36 in a hundred each time.
        Bounds.takes("46 the last seed stays: 36 isn't below 36", () -> Check.of(Bounds.FARM.replace("hurry 50", "hurry 36")), x -> x.slips(65536), 0);
        Bounds.takes("46 the last seed stays: 36 is below 37", () -> Check.of(Bounds.FARM.replace("hurry 50", "hurry 37")), x -> x.slips(65536), 7);
        Bounds.takes("46 seed 0: 74 isn't below 74", () -> Check.of(Bounds.SMALL.replace("hurry 0", "hurry 74")), x -> x.slips(0), 0);
        Bounds.takes("46 seed 0: 74 is below 75", () -> Check.of(Bounds.SMALL.replace("hurry 0", "hurry 75")), x -> x.slips(0), 1);
        // (75 * 873 + 74) is 65,549, 12 more than 65,537.
        Bounds.takes("46 seed 873 wraps: 12 isn't below 12", () -> Check.of(Bounds.SMALL.replace("hurry 0", "hurry 12")), x -> x.slips(873), 0);
        Bounds.takes("46 seed 873 wraps: 12 is below 13", () -> Check.of(Bounds.SMALL.replace("hurry 0", "hurry 13")), x -> x.slips(873), 1);
        Bounds.takes("46 hurry 0", Bounds::small, x -> x.slips(65535), 0);
        Bounds.takes("46 hurry 100: all of them", Bounds::wide0, x -> x.slips(0), 14);
    }

    private static void fitNumbers() {
        fitsFromTo(Bounds.FARM, 2);
        fitsFromTo(Bounds.SMALL, 1);
        fitsFromTo(Bounds.SMALL + ";befell g year 1", 0);
        fitsFromTo(Bounds.WIDE.replaceAll(";befell.*", ""), 16);
    }

    private static void fitsFromTo(String text, int count) {
        Bounds.takes("30 how many", () -> Check.of(text), x -> x.fits(), count);
        for (int i = 0; i < count; i++) {
            int at = i;
            Bounds.tells("31 fit " + at + " of " + count, () -> Check.of(text), x -> x.fitAt(at), -1);
        }
        for (int i : new int[] {-1, count, count + 1, 16, 32, MIN, MAX}) {
            Bounds.refuses("31 fit " + i + " of " + count, () -> Check.of(text), x -> x.fitAt(i), Bounds.NO_SUCH);
        }
    }

    private static BasketKeep imaged(int count) {
        BasketKeep x = Bounds.farm();
        for (int i = 0; i < count; i++) {
            Check.same("53 image", x.image(), i);
            x.year();
        }
        return x;
    }

    private static void images() {
        for (int count = 0; count <= 3; count++) {
            int images = count;
            for (int i = 0; i < count; i++) {
                BasketKeep x = imaged(count);
                Check.same("54 image " + i + " of " + count, x.back(i), true);
                Check.same("54 as by it", x.size(7), i);
                Check.same("54 all stay", x.size(9), count);
            }
            for (int i : new int[] {-1, count, count + 1, 3, MIN, MAX}) {
                Bounds.refuses("54 image " + i + " of " + count, () -> imaged(images), x -> Bounds.one(x.back(i)), 0, Bounds.NO_SUCH);
            }
        }
        Bounds.takes("53 the third", () -> imaged(2), x -> x.image(), 2);
        Bounds.refuses("53 the fourth", () -> imaged(3), x -> x.image(), Bounds.NO_ROOM);
        Bounds.refuses("53 the fourth, gone back to one", () -> goneBack(3), x -> x.image(), Bounds.NO_ROOM);
        Bounds.refuses("52 gone back to one", () -> goneBack(1), x -> Bounds.one(x.undo()), 0, Bounds.NOTHING);
    }

    private static BasketKeep goneBack(int images) {
        BasketKeep x = imaged(images);
        x.back(0);
        return x;
    }

    /** 1 ahead of 2, 2 ahead of 5, as the document tells them. */
    private static void firstOfTwoTroubles() {
        Bounds.refuses("10 no such maker, no such year", Bounds::farm, x -> x.keepsOut(3, 0), Bounds.NO_SUCH);
        Bounds.refuses("18 no such maker, a number", Bounds::farm, x -> x.lastsIn(3, 61), Bounds.NO_SUCH);
        Bounds.refuses("24 no such good, a number", Bounds::farm, x -> x.layAt(3, 31), Bounds.NO_SUCH);
        Bounds.refuses("24 a lost one, a number", Bounds::used, x -> x.layAt(2, 0), Bounds.NUMBER);
        Bounds.refuses("25 no such good, a number", Bounds::farm, x -> x.worthIf(3, 0, 61), Bounds.NO_SUCH);
        Bounds.refuses("25 no such maker, a number", Bounds::farm, x -> x.worthIf(0, 3, 61), Bounds.NO_SUCH);
        Bounds.refuses("25 a lost one, no such maker", Bounds::used, x -> x.worthIf(2, 3, 0), Bounds.NO_SUCH);
        Bounds.refuses("25 a lost one, a number", Bounds::used, x -> x.worthIf(2, 0, -1), Bounds.NUMBER);
        Bounds.refuses("25 another lies there, a number", Bounds::farm, x -> x.worthIf(1, 0, 61), Bounds.NUMBER);
        Bounds.refuses("27 no such good, a number", Bounds::farm, x -> x.besides(3, 61), Bounds.NO_SUCH);
        Bounds.refuses("27 in no basket, a number", Bounds::farm, x -> x.besides(1, 61), Bounds.NUMBER);
        Bounds.refuses("27 lost, a number", Bounds::used, x -> x.besides(2, -1), Bounds.NUMBER);
        Bounds.refuses("43 no such good, a number", Bounds::farm, x -> x.odds(-1, 61, true), Bounds.NO_SUCH);
        Bounds.refuses("44 no such good, a number", Bounds::farm, x -> x.mean(-1, 61, true), Bounds.NO_SUCH);
        Bounds.refuses("48 a lost one, no such maker", Bounds::used, x -> x.put(2, 3), Bounds.NO_SUCH);
        Bounds.refuses("37 both numbers", Bounds::farm, x -> x.weaves(1, 10), Bounds.NUMBER);
        Bounds.refuses("39 both numbers", Bounds::farm, x -> x.strokes(0, -1), Bounds.NUMBER);
        Bounds.refuses("45 both numbers", Bounds::farm, x -> x.drawn(-1, 61), Bounds.NUMBER);
    }

    /** Calls that may be refused and aren't here: each tells 0 behind a refusal, and where() has no place more. */
    private static List<Bounds.Call> allFine() {
        List<Bounds.Call> all = new ArrayList<>(List.of(x -> x.danger(0, 0), x -> x.maker(0, 0), x -> x.good(0, 0), x -> x.strikes(1),
            x -> x.keepsOut(0, 1), x -> x.worth(), x -> x.strikesNext(0), x -> x.worthIn(1), x -> x.lost(1)));
        all.addAll(List.of(x -> x.lostIn(0), x -> x.lostBy(0), x -> x.wornIn(0), x -> x.lastsIn(0, 1), x -> x.keptOut(1), x -> x.busiest(1),
            x -> x.worst(1), x -> x.still(), x -> x.lay(1), x -> x.layAt(0, 1)));
        all.addAll(List.of(x -> x.worthIf(0, 0, 1), x -> x.nest(0), x -> x.besides(0, 1), x -> x.vain(0), x -> x.open(), x -> x.fits(),
            x -> x.fitAt(0), x -> x.could(), x -> x.surely(), x -> x.ask()));
        all.addAll(List.of(x -> x.askLeaves(), x -> x.judge(), x -> x.weaves(2, 2), x -> x.weavesFrom(2, 2), x -> x.strokes(2, 2),
            x -> x.holds(1, true, false, true), x -> x.rests(1), x -> x.rest(1), x -> x.odds(0, 1, true), x -> x.mean(0, 1, true)));
        all.addAll(List.of(x -> x.drawn(1, 1), x -> x.slips(1)));
        return all;
    }

    private static List<Bounds.Call> allActs() {
        return List.of(x -> x.year(), x -> x.put(1, 0) < 0 ? x.put(0, 2) : 0, x -> x.take(0), x -> x.think(0, 0), x -> Bounds.one(x.mend(0)),
            x -> Bounds.one(x.undo()), x -> x.image(), x -> Bounds.one(x.back(0)));
    }

    /** The hat taken out of cal's basket, so that every act can be done. */
    private static BasketKeep ready() {
        BasketKeep x = Bounds.used();
        x.take(2);
        return x;
    }

    private static void troubleOfTheLatest() {
        List<Bounds.Call> all = new ArrayList<>(allFine());
        all.addAll(allActs());
        for (int i = 0; i < all.size(); i++) {
            BasketKeep x = ready();
            x.level(0);
            Check.tell(x, "level");
            Check.same("57 a fault before", x.trouble() * 100 + x.where(), 405);
            all.get(i).on(x);
            Check.same("57 call " + i + " wasn't refused", x.trouble(), 0);
            Check.same("5 nowhere behind call " + i, x.where(), -1);
            Check.same("4 the fault behind call " + i, x.fault(), 1);
        }
        BasketKeep x = ready();
        x.worthIf(1, 0, 0);
        Bounds.led(x, 0);
        Bounds.led(x, 9);
        x.size(0);
        x.size(99);
        x.fault();
        x.where();
        x.trouble();
        x.feed(0, 0, 0, 0, 0);
        Check.same("57 behind calls that may not be refused", x.trouble(), Bounds.NOT_SO);
        Check.same("57 each of the numbers", x.put(2, 2) * 10 + x.trouble(), -5);
    }

    private static void tellingChangesNothing() {
        List<Bounds.Call> all = allFine();
        for (int i = 0; i < all.size(); i++) {
            Bounds.tells("telling " + i, Bounds::used, all.get(i), -99);
        }
    }

    private static void sizes() {
        BasketKeep x = Bounds.wide0();
        int[] due = {100, 8, 5, 4, 4, 4, 4, 0, 0, 0, 0};
        for (int what = 0; what <= 10; what++) {
            Bounds.setTrouble(x, Bounds.NUMBER);
            Check.same("56 the most of " + what, x.size(what), due[what]);
            Check.same("56 tells no trouble", x.trouble(), Bounds.NUMBER);
        }
        for (int what : new int[] {-1, 11, 12, MIN, MAX}) {
            Check.same("56 others " + what, x.size(what), -1);
        }
        for (int i = 0; i < 3; i++) {
            x.image();
        }
        for (int i = 1; i <= 17; i++) {
            x.year();
            Check.same("56 acts that can be undone", x.size(8), Math.min(i, 16));
        }
        Check.same("56 years gone by", x.size(7), 17);
        Check.same("56 images", x.size(9), 3);
        for (int g = 0; g < 4; g++) {
            x.take(g);
            Check.same("56 goods in baskets", x.size(4), 3 - g);
        }
    }
}
