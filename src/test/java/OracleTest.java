import java.util.Random;

/** Long runs of calls, drawn by a seed, whose every answer must be the plain oracle's. */
public final class OracleTest {
    private static final int[] EDGES = {-1, 0, 1, 2, 3, 4, 5, 8, 9, 10, 17, 18, 19, 30, 31, 40, 59, 60, 61, 998, 999, 1000,
        65535, 65536, 65537, 2_000_000_000, 2_000_000_001, Integer.MAX_VALUE, Integer.MIN_VALUE};

    public static void main(String[] args) {
        int runs = args.length > 0 ? Integer.parseInt(args[0]) : 1000;
        int first = args.length > 1 ? Integer.parseInt(args[1]) : 1;
        for (int seed = first; seed < first + runs && Check.wrongSoFar() == 0; seed++) {
            oneRun(seed);
        }
        for (int seed = first; seed < first + 8 * runs && Check.wrongSoFar() == 0; seed++) {
            faultRun(seed);
        }
        Check.end("OracleTest");
    }

    private static void tell(BasketKeep x, Oracle o, String text, String at) {
        Check.feed(x, text);
        o.tape.append(text).append(" ".repeat((20 - text.length() % 20) % 20));
        long due = o.call("level", text.length(), 0, 0, 0);
        Check.same(at + " level of: " + text, x.level(text.length()), due);
        after(x, o, at + " level of: " + text);
    }

    private static void after(BasketKeep x, Oracle o, String at) {
        Check.same(at + " trouble", x.trouble(), o.trouble);
        Check.same(at + " fault", x.fault(), o.fault);
        Check.same(at + " where", x.where(), o.where());
    }

    private static void faultRun(int seed) {
        Random random = new Random(seed * 31L + 7);
        TextMaker texts = new TextMaker(random);
        BasketKeep x = new BasketKeep();
        Oracle o = new Oracle();
        for (int i = 0; i < 8; i++) {
            tell(x, o, texts.spoilt(), "faults " + seed + "." + i);
        }
    }

    private static void oneRun(int seed) {
        Random random = new Random(seed);
        TextMaker texts = new TextMaker(random);
        BasketKeep x = new BasketKeep();
        Oracle o = new Oracle();
        if (random.nextInt(10) != 0) {
            tell(x, o, texts.sound(), "run " + seed);
        }
        int calls = 120;
        for (int i = 0; i < calls && Check.wrongSoFar() == 0; i++) {
            oneCall(x, o, random, texts, "run " + seed + "." + i);
        }
    }

    private static int argument(Random random) {
        int dice = random.nextInt(20);
        return dice == 0 ? EDGES[random.nextInt(EDGES.length)] : dice < 12 ? random.nextInt(4) : dice < 16 ? random.nextInt(9) : random.nextInt(61);
    }

    private static void oneCall(BasketKeep x, Oracle o, Random random, TextMaker texts, String at) {
        int dice = random.nextInt(100);
        if (dice < 2) {
            tell(x, o, random.nextInt(4) == 0 ? texts.sound() : texts.spoilt(), at);
            return;
        }
        if (dice < 4) {
            for (int i = 0; i < 11; i++) {
                int what = i == 10 ? argument(random) : i;
                Check.same(at + " size " + what, x.size(what), o.size(what));
            }
            int i = random.nextInt(6) - 1;
            Check.same(at + " led " + i, Bounds.led(x, i), o.led(i));
            return;
        }
        String name = Oracle.CALLS.get(1 + random.nextInt(Oracle.CALLS.size() - 1));
        if (dice < 30) {
            name = new String[] {"year", "put", "take", "think", "mend", "undo", "image", "back"}[random.nextInt(8)];
        } else if (dice < 33) {
            name = "year";
        }
        int a = argument(random);
        int b = argument(random);
        int c = argument(random);
        int d = random.nextInt(2);
        if (name.equals("holds") || name.equals("odds") || name.equals("mean")) {
            c = random.nextInt(2);
        }
        if (name.equals("holds")) {
            b = random.nextInt(2);
        }
        if (name.equals("strokes") && random.nextBoolean()) {
            b = random.nextInt(2_000_000_001) >> random.nextInt(31);
        }
        if ((name.equals("drawn") || name.equals("slips")) && random.nextBoolean()) {
            a = random.nextInt(65537);
        }
        String call = at + " " + name + "(" + a + ", " + b + ", " + c + ", " + d + ")";
        long due = o.call(name, a, b, c, d);
        Check.same(call, call(x, name, a, b, c, d), due);
        after(x, o, call);
    }

    private static long call(BasketKeep x, String name, int a, int b, int c, int d) {
        return switch (name) {
            case "danger" -> x.danger(a, b);
            case "maker" -> x.maker(a, b);
            case "good" -> x.good(a, b);
            case "strikes" -> x.strikes(a);
            case "keepsOut" -> x.keepsOut(a, b);
            case "worth" -> x.worth();
            case "strikesNext" -> x.strikesNext(a);
            case "worthIn" -> x.worthIn(a);
            case "lost" -> x.lost(a);
            case "lostIn" -> x.lostIn(a);
            case "lostBy" -> x.lostBy(a);
            case "wornIn" -> x.wornIn(a);
            case "lastsIn" -> x.lastsIn(a, b);
            case "keptOut" -> x.keptOut(a);
            case "busiest" -> x.busiest(a);
            case "worst" -> x.worst(a);
            case "still" -> x.still();
            case "lay" -> x.lay(a);
            case "layAt" -> x.layAt(a, b);
            case "worthIf" -> x.worthIf(a, b, c);
            case "nest" -> x.nest(a);
            case "besides" -> x.besides(a, b);
            case "vain" -> x.vain(a);
            case "open" -> x.open();
            case "fits" -> x.fits();
            case "fitAt" -> x.fitAt(a);
            case "could" -> x.could();
            case "surely" -> x.surely();
            case "ask" -> x.ask();
            case "askLeaves" -> x.askLeaves();
            case "judge" -> x.judge();
            case "weaves" -> x.weaves(a, b);
            case "weavesFrom" -> x.weavesFrom(a, b);
            case "strokes" -> x.strokes(a, b);
            case "holds" -> x.holds(a, b != 0, c != 0, d != 0);
            case "rests" -> x.rests(a);
            case "rest" -> x.rest(a);
            case "odds" -> x.odds(a, b, c != 0);
            case "mean" -> x.mean(a, b, c != 0);
            case "drawn" -> x.drawn(a, b);
            case "slips" -> x.slips(a);
            case "year" -> x.year();
            case "put" -> x.put(a, b);
            case "take" -> x.take(a);
            case "think" -> x.think(a, b);
            case "mend" -> Bounds.one(x.mend(a));
            case "undo" -> Bounds.one(x.undo());
            case "image" -> x.image();
            case "back" -> Bounds.one(x.back(a));
            default -> throw new IllegalArgumentException(name);
        };
    }
}
