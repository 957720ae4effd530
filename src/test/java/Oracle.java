import java.math.BigInteger;
import java.util.ArrayList;
import java.util.Arrays;
import java.util.LinkedHashMap;
import java.util.List;
import java.util.Map;
import java.util.TreeSet;

/** The document once more, written as plainly and wastefully as can be, to compare the class with. */
final class Oracle {
    static final class Danger {
        int every;
        int from;

        boolean strikes(int year) {
            for (int y = from; y <= year; y += every) {
                if (y == year) {
                    return true;
                }
            }
            return false;
        }
    }

    static final class Maker {
        String kind;
        int lasts;
        TreeSet<Integer> thinks = new TreeSet<>();
    }

    static final class Good {
        int worth;
        TreeSet<Integer> fears = new TreeSet<>();
        int lies = -2;
        int befell = -2;
    }

    static final class Told {
        int hurry = -1;
        List<Danger> dangers = new ArrayList<>();
        List<Maker> makers = new ArrayList<>();
        List<Good> goods = new ArrayList<>();
        List<int[]> unsure = new ArrayList<>();
        Map<String, int[]> names = new LinkedHashMap<>(); // sort and number
    }

    /** All that acts change. */
    static final class World {
        int years = 0;
        boolean[] lost;
        int[] lies;
        int[] lasts;
        List<TreeSet<Integer>> thinks = new ArrayList<>();
        List<TreeSet<Integer>> slipped = new ArrayList<>();

        World(Told told) {
            lost = new boolean[told.goods.size()];
            lies = told.goods.stream().mapToInt(g -> g.lies).toArray();
            lasts = told.makers.stream().mapToInt(m -> m.lasts).toArray();
            for (Maker m : told.makers) {
                thinks.add(new TreeSet<>(m.thinks));
                slipped.add(new TreeSet<>());
            }
        }

        World(World other) {
            years = other.years;
            lost = other.lost.clone();
            lies = other.lies.clone();
            lasts = other.lasts.clone();
            for (int m = 0; m < lasts.length; m++) {
                thinks.add(new TreeSet<>(other.thinks.get(m)));
                slipped.add(new TreeSet<>(other.slipped.get(m)));
            }
        }
    }

    record Event(int year, String what, int who, int danger) {
    }

    // ---- the text

    static final List<String> RESERVED = List.of("level", "danger", "maker", "good", "in", "unsure", "befell");

    static final class Fault extends RuntimeException {
        final int number;
        final int place;

        Fault(int number, int place) {
            this.number = number;
            this.place = place;
        }
    }

    record Token(char sort, String text, int place) {
        int value() {
            return Integer.parseInt(text);
        }
    }

    static List<Token> cut(String text) {
        List<Token> all = new ArrayList<>();
        int i = 0;
        while (i < text.length()) {
            char c = text.charAt(i);
            if (c == ' ') {
                i++;
                continue;
            }
            int from = i;
            if (c >= 'a' && c <= 'z') {
                while (i < text.length() && text.charAt(i) >= 'a' && text.charAt(i) <= 'z') {
                    i++;
                }
                all.add(new Token(i - from > 8 ? '?' : 'w', text.substring(from, i), from));
            } else if (c >= '0' && c <= '9') {
                while (i < text.length() && text.charAt(i) >= '0' && text.charAt(i) <= '9') {
                    i++;
                }
                all.add(new Token(i - from > 3 ? '?' : 'n', text.substring(from, i), from));
            } else {
                i++;
                all.add(new Token(c == ';' || c == ',' ? c : '?', "" + c, from));
            }
        }
        all.add(new Token('e', "", text.length()));
        return all;
    }

    /** A line is a pattern: words as they are, + a new name, a sort's letter for an old one, * a list, # a whole. */
    static final Map<String, String> PATTERNS = Map.of(
        "level", "hurry #0-100", "danger", "+D every #1-9 from #1-30", "maker", "+M ! lasts #1-30 thinks *",
        "good", "+G worth #1-99 fears *", "in", "G M", "unsure", "M D", "befell", "G year #1-40");

    static Told parse(String text) {
        List<Token> tokens = cut(text);
        Told told = new Told();
        int[] at = {0};
        while (true) {
            Token first = tokens.get(at[0]++);
            if (first.sort != 'w' || !RESERVED.contains(first.text)) {
                throw new Fault(1, first.place);
            }
            if (first.text.equals("level") && told.hurry >= 0) {
                throw new Fault(3, first.place);
            }
            if (!first.text.equals("level") && told.hurry < 0) {
                throw new Fault(6, first.place);
            }
            int has = switch (first.text) {
                case "danger" -> told.dangers.size() - 8;
                case "maker" -> told.makers.size() - 5;
                case "good" -> told.goods.size() - 4;
                case "unsure" -> told.unsure.size() - 4;
                default -> -1;
            };
            if (has >= 0) {
                throw new Fault(5, first.place);
            }
            line(told, first.text, tokens, at);
            Token behind = tokens.get(at[0]++);
            if (behind.sort == 'e') {
                if (told.makers.isEmpty() || told.goods.isEmpty()) {
                    throw new Fault(6, behind.place);
                }
                return told;
            }
            if (behind.sort != ';') {
                throw new Fault(1, behind.place);
            }
        }
    }

    private static void line(Told told, String sort, List<Token> tokens, int[] at) {
        List<Integer> values = new ArrayList<>();
        TreeSet<Integer> list = new TreeSet<>();
        String kind = "";
        for (String want : PATTERNS.get(sort).split(" ")) {
            Token t = tokens.get(at[0]++);
            char w = want.charAt(0);
            if (w == '#') {
                if (t.sort != 'n') {
                    throw new Fault(1, t.place);
                }
                String[] bounds = want.substring(1).split("-");
                if (t.value() < Integer.parseInt(bounds[0]) || t.value() > Integer.parseInt(bounds[1])) {
                    throw new Fault(4, t.place);
                }
                values.add(t.value());
            } else if (w == '+') {
                name(t);
                if (told.names.containsKey(t.text)) {
                    throw new Fault(3, t.place);
                }
                int number = want.equals("+D") ? told.dangers.size() : want.equals("+M") ? told.makers.size() : told.goods.size();
                told.names.put(t.text, new int[] {want.charAt(1), number});
            } else if (w == '!') {
                if (!List.of("grave", "hasty", "happy").contains(t.text)) {
                    throw new Fault(1, t.place);
                }
                kind = t.text;
            } else if (w == '*') {
                list.add(old(told, t, 'D'));
                while (tokens.get(at[0]).sort == ',') {
                    at[0]++;
                    t = tokens.get(at[0]++);
                    if (!list.add(old(told, t, 'D'))) {
                        throw new Fault(3, t.place);
                    }
                }
            } else if (Character.isUpperCase(w)) {
                int number = old(told, t, w);
                boolean again = switch (sort) {
                    case "in" -> w == 'G' ? told.goods.get(number).lies >= 0
                        : told.goods.stream().anyMatch(g -> g.lies == number);
                    case "befell" -> told.goods.get(number).befell > 0;
                    default -> w == 'D' && told.unsure.stream().anyMatch(u -> u[0] == values.get(0) && u[1] == number);
                };
                if (again) {
                    throw new Fault(3, t.place);
                }
                values.add(number);
            } else if (t.sort != 'w' || !t.text.equals(want)) {
                throw new Fault(1, t.place);
            }
        }
        keep(told, sort, values, list, kind);
    }

    private static void name(Token t) {
        if (t.sort != 'w' || RESERVED.contains(t.text)) {
            throw new Fault(1, t.place);
        }
    }

    private static int old(Told told, Token t, char sort) {
        name(t);
        int[] known = told.names.get(t.text);
        if (known == null || known[0] != sort) {
            throw new Fault(2, t.place);
        }
        return known[1];
    }

    private static void keep(Told told, String sort, List<Integer> v, TreeSet<Integer> list, String kind) {
        switch (sort) {
            case "level" -> told.hurry = v.get(0);
            case "danger" -> {
                Danger d = new Danger();
                d.every = v.get(0);
                d.from = v.get(1);
                told.dangers.add(d);
            }
            case "maker" -> {
                Maker m = new Maker();
                m.kind = kind;
                m.lasts = v.get(0);
                m.thinks = list;
                told.makers.add(m);
            }
            case "good" -> {
                Good g = new Good();
                g.worth = v.get(0);
                g.fears = list;
                told.goods.add(g);
            }
            case "in" -> told.goods.get(v.get(0)).lies = v.get(1);
            case "unsure" -> told.unsure.add(new int[] {v.get(0), v.get(1)});
            default -> told.goods.get(v.get(0)).befell = v.get(1);
        }
    }

    // ---- the state of one object

    StringBuilder tape = new StringBuilder();
    Told told = null;
    World now = null;
    List<World> acts = new ArrayList<>();
    List<World> images = new ArrayList<>();
    int fault = 0;
    int place = -1;
    int trouble = 0;

    private static final class Refused extends RuntimeException {
        final int number;

        Refused(int number) {
            this.number = number;
        }
    }

    static final List<String> CALLS = List.of("level", "danger", "maker", "good", "strikes", "keepsOut", "worth", "strikesNext",
        "worthIn", "lost", "lostIn", "lostBy", "wornIn", "lastsIn", "keptOut", "busiest", "worst", "still", "lay", "layAt",
        "worthIf", "nest", "besides", "vain", "open", "fits", "fitAt", "could", "surely", "ask", "askLeaves", "judge", "weaves",
        "weavesFrom", "strokes", "holds", "rests", "rest", "odds", "mean", "drawn", "slips", "year", "put", "take", "think",
        "mend", "undo", "image", "back");

    /** Calls that may be refused; a boolean is 1 or 0, as an argument too. */
    long call(String name, int a, int b, int c, int d) {
        try {
            long answer = answer(name, a, b, c, d);
            trouble = 0;
            return answer;
        } catch (Refused r) {
            trouble = r.number;
            return switch (name) {
                case "holds" -> -100;
                case "mend", "undo", "back" -> 0;
                default -> -1;
            };
        }
    }

    int where() {
        return trouble == 4 ? place : -1;
    }

    int size(int what) {
        if (what == 10) {
            return tape.length();
        }
        if (what < 0 || what > 10) {
            return -1;
        }
        if (told == null) {
            return 0;
        }
        return switch (what) {
            case 0 -> told.hurry;
            case 1 -> told.dangers.size();
            case 2 -> told.makers.size();
            case 3 -> told.goods.size();
            case 4 -> (int) Arrays.stream(now.lies).filter(m -> m >= 0).count();
            case 5 -> told.unsure.size();
            case 6 -> (int) told.goods.stream().filter(g -> g.befell > 0).count();
            case 7 -> now.years;
            case 8 -> acts.size();
            default -> images.size();
        };
    }

    /** -7 stands for the exception. */
    int led(int i) {
        List<Integer> all = new ArrayList<>();
        for (int g = 0; told != null && g < told.goods.size(); g++) {
            if (now.lost[g]) {
                all.add(g);
            }
        }
        return i >= 0 && i < all.size() ? all.get(i) : -7;
    }

    private void level() {
        need(told != null, 1);
    }

    private static void need(boolean so, int number) {
        if (!so) {
            throw new Refused(number);
        }
    }

    private void danger(int d) {
        need(told != null && d >= 0 && d < told.dangers.size(), 1);
    }

    private void maker(int m) {
        need(told != null && m >= 0 && m < told.makers.size(), 1);
    }

    private void good(int g) {
        need(told != null && g >= 0 && g < told.goods.size(), 1);
    }

    private static void range(int n, int least, int most) {
        need(n >= least && n <= most, 2);
    }

    private long answer(String name, int a, int b, int c, int d) {
        switch (name) {
            case "level":
                return readLevel(a);
            case "undo":
                need(!acts.isEmpty(), 6);
                now = acts.remove(acts.size() - 1);
                return 1;
            case "back":
                need(a >= 0 && a < images.size(), 1);
                now = new World(images.get(a));
                acts.clear();
                return 1;
            case "danger":
                danger(a);
                need(b >= 0 && b <= 3, 1);
                return ofDanger(a, b);
            case "maker":
                maker(a);
                need(b >= 0 && b <= 3, 1);
                return ofMaker(a, b);
            case "good":
                good(a);
                need(b >= 0 && b <= 3, 1);
                Good g = told.goods.get(a);
                return b == 0 ? g.worth : b == 1 ? bits(g.fears) : b == 2 ? now.lies[a] : now.lost[a] ? 1 : 0;
            case "strikes", "keepsOut", "worth", "strikesNext":
                return ofNow(name, a, b);
            case "worthIn", "lost", "lostIn", "lostBy", "wornIn", "lastsIn", "keptOut", "busiest", "worst", "still":
                return ofYears(name, a, b);
            case "lay", "layAt", "worthIf", "nest", "besides", "vain", "open":
                return ofBaskets(name, a, b, c);
            case "fits", "fitAt", "could", "surely", "ask", "askLeaves", "judge":
                return ofDoubts(name, a);
            case "weaves", "weavesFrom", "strokes", "holds", "rests", "rest":
                return ofGames(name, a, b, c, d);
            case "odds", "mean", "drawn", "slips":
                return ofHurry(name, a, b, c);
            default:
                return act(name, a, b);
        }
    }

    private long readLevel(int n) {
        need(n >= 0 && n <= tape.length(), 2);
        String text = tape.substring(0, n);
        tape.setLength(0);
        try {
            told = parse(text);
        } catch (Fault f) {
            fault = f.number;
            place = f.place;
            throw new Refused(4);
        }
        fault = 0;
        now = new World(told);
        acts.clear();
        images.clear();
        return told.goods.size();
    }

    private static int bits(Iterable<Integer> set) {
        int sum = 0;
        for (int one : set) {
            sum += 1 << one;
        }
        return sum;
    }

    private static TreeSet<Integer> set(int bits) {
        TreeSet<Integer> set = new TreeSet<>();
        for (int i = 0; i < 31; i++) {
            if ((bits >> i) % 2 == 1) {
                set.add(i);
            }
        }
        return set;
    }

    private long ofDanger(int d, int what) {
        if (what == 0) {
            return told.dangers.get(d).every;
        }
        if (what == 1) {
            return told.dangers.get(d).from;
        }
        TreeSet<Integer> who = new TreeSet<>();
        if (what == 2) {
            for (int g = 0; g < told.goods.size(); g++) {
                if (told.goods.get(g).fears.contains(d)) {
                    who.add(g);
                }
            }
        } else {
            for (int m = 0; m < told.makers.size(); m++) {
                if (now.thinks.get(m).contains(d)) {
                    who.add(m);
                }
            }
        }
        return bits(who);
    }

    private long ofMaker(int m, int what) {
        return switch (what) {
            case 0 -> List.of("grave", "hasty", "happy").indexOf(told.makers.get(m).kind);
            case 1 -> now.lasts[m];
            case 2 -> bits(now.thinks.get(m));
            default -> goodIn(now, m);
        };
    }

    private static int goodIn(World w, int m) {
        for (int g = 0; g < w.lies.length; g++) {
            if (w.lies[g] == m) {
                return g;
            }
        }
        return -2;
    }

    private TreeSet<Integer> striking(int year) {
        TreeSet<Integer> all = new TreeSet<>();
        for (int d = 0; d < told.dangers.size(); d++) {
            if (told.dangers.get(d).strikes(year)) {
                all.add(d);
            }
        }
        return all;
    }

    private TreeSet<Integer> keptOutBy(World w, int m, int year) {
        TreeSet<Integer> out = new TreeSet<>(w.thinks.get(m));
        String kind = told.makers.get(m).kind;
        if (kind.equals("hasty") && !out.isEmpty()) {
            out.remove(out.last());
        }
        if (w.lasts[m] == 0 || kind.equals("happy") && year % 2 == 1) {
            out.clear();
        }
        out.removeAll(w.slipped.get(m));
        return out;
    }

    /** Lets so many years go by; what happens is told as events, whose years count from the first. */
    private List<Event> run(World w, int n) {
        List<Event> events = new ArrayList<>();
        for (int i = 1; i <= n; i++) {
            w.years++;
            for (int d : striking(w.years)) {
                for (int g = 0; g < w.lost.length; g++) {
                    if (w.lost[g]) {
                        continue;
                    }
                    int m = w.lies[g];
                    if (m >= 0 && keptOutBy(w, m, w.years).contains(d)) {
                        w.lasts[m]--;
                        events.add(new Event(i, "kept", m, d));
                        if (w.lasts[m] == 0) {
                            events.add(new Event(i, "worn", m, d));
                        }
                    } else if (told.goods.get(g).fears.contains(d)) {
                        w.lost[g] = true;
                        events.add(new Event(i, "lost", g, d));
                    }
                }
            }
        }
        return events;
    }

    private int worth(World w) {
        int sum = 0;
        for (int g = 0; g < w.lost.length; g++) {
            sum += w.lost[g] ? 0 : told.goods.get(g).worth;
        }
        return sum;
    }

    private static int lostBits(World w) {
        int sum = 0;
        for (int g = 0; g < w.lost.length; g++) {
            sum += w.lost[g] ? 1 << g : 0;
        }
        return sum;
    }

    private long ofNow(String name, int a, int b) {
        switch (name) {
            case "strikes":
                level();
                range(a, 1, 999);
                return bits(striking(a));
            case "keepsOut":
                maker(a);
                range(b, 1, 999);
                return bits(keptOutBy(now, a, b));
            case "worth":
                level();
                return worth(now);
            default:
                danger(a);
                int year = now.years + 1;
                while (!told.dangers.get(a).strikes(year)) {
                    year++;
                }
                return year;
        }
    }

    private long ofYears(String name, int a, int b) {
        World w = told == null ? null : new World(now);
        switch (name) {
            case "lostIn", "lostBy":
                good(a);
                if (now.lost[a]) {
                    return name.equals("lostIn") ? 0 : -2;
                }
                for (Event e : run(w, 60)) {
                    if (e.what.equals("lost") && e.who == a) {
                        return name.equals("lostIn") ? e.year : e.danger;
                    }
                }
                return -2;
            case "wornIn":
                maker(a);
                if (now.lasts[a] == 0) {
                    return 0;
                }
                for (Event e : run(w, 60)) {
                    if (e.what.equals("worn") && e.who == a) {
                        return e.year;
                    }
                }
                return -2;
            case "lastsIn":
                maker(a);
                range(b, 0, 60);
                run(w, b);
                return w.lasts[a];
            case "still":
                level();
                for (int i = 1; i <= 60; i++) {
                    if (striking(now.years + i).isEmpty()) {
                        return i;
                    }
                }
                return -2;
            default:
                level();
                range(a, 0, 60);
                return ofSpan(name, w, run(w, a));
        }
    }

    private long ofSpan(String name, World w, List<Event> events) {
        switch (name) {
            case "worthIn":
                return worth(w);
            case "lost":
                return lostBits(w);
            case "keptOut":
                return events.stream().filter(e -> e.what.equals("kept")).count();
            case "busiest":
                int best = 0;
                long most = -1;
                for (int m = 0; m < told.makers.size(); m++) {
                    int who = m;
                    long often = events.stream().filter(e -> e.what.equals("kept") && e.who == who).count();
                    if (often > most) {
                        most = often;
                        best = m;
                    }
                }
                return best;
            default:
                int worst = -2;
                int sum = 0;
                for (int d = 0; d < told.dangers.size(); d++) {
                    int by = d;
                    int harm = events.stream().filter(e -> e.what.equals("lost") && e.danger == by)
                        .mapToInt(e -> told.goods.get(e.who).worth).sum();
                    if (harm > sum) {
                        sum = harm;
                        worst = d;
                    }
                }
                return worst;
        }
    }

    private int bestLaid;
    private int[] bestRow;

    private void layAll(int[] row, int g, int n) {
        if (g == row.length) {
            World w = new World(now);
            for (int i = 0; i < row.length; i++) {
                w.lies[i] = row[i];
            }
            run(w, n);
            if (worth(w) > bestLaid) {
                bestLaid = worth(w);
                bestRow = row.clone();
            }
            return;
        }
        for (int m = -1; m < told.makers.size(); m++) {
            int place = m;
            if (m >= 0 && (now.lost[g] || Arrays.stream(row, 0, g).anyMatch(p -> p == place))) {
                continue;
            }
            row[g] = m < 0 ? -2 : m;
            layAll(row, g + 1, n);
        }
    }

    private List<Integer> byCount(int limit) {
        List<Integer> sets = new ArrayList<>();
        for (int s = 0; s < limit; s++) {
            sets.add(s);
        }
        sets.sort((p, q) -> p.equals(q) ? 0 : Integer.bitCount(p) != Integer.bitCount(q)
            ? Integer.bitCount(p) - Integer.bitCount(q) : p - q);
        return sets;
    }

    private long ofBaskets(String name, int a, int b, int c) {
        switch (name) {
            case "lay", "layAt":
                if (name.equals("lay")) {
                    level();
                } else {
                    good(a);
                }
                int n = name.equals("lay") ? a : b;
                range(n, 1, 30);
                bestLaid = -1;
                layAll(new int[told.goods.size()], 0, n);
                return name.equals("lay") ? bestLaid : bestRow[a];
            case "worthIf":
                good(a);
                maker(b);
                range(c, 0, 60);
                int there = goodIn(now, b);
                need(!now.lost[a] && (there < 0 || there == a || now.lost[there]), 5);
                World w = new World(now);
                w.lies[a] = b;
                run(w, c);
                return worth(w);
            case "nest":
                good(a);
                for (int s : byCount(1 << told.makers.size())) {
                    TreeSet<Integer> together = new TreeSet<>();
                    set(s).forEach(m -> together.addAll(now.thinks.get(m)));
                    if (together.containsAll(told.goods.get(a).fears)) {
                        return s;
                    }
                }
                return -2;
            case "besides":
                good(a);
                range(b, 0, 60);
                need(!now.lost[a] && now.lies[a] >= 0, 5);
                for (int s : byCount(1 << told.dangers.size())) {
                    World more = new World(now);
                    TreeSet<Integer> thoughts = more.thinks.get(now.lies[a]);
                    if (set(s).stream().noneMatch(thoughts::contains)) {
                        thoughts.addAll(set(s));
                        run(more, b);
                        if (!more.lost[a]) {
                            return s;
                        }
                    }
                }
                return -2;
            case "vain":
                maker(a);
                TreeSet<Integer> vain = new TreeSet<>(now.thinks.get(a));
                if (goodIn(now, a) >= 0) {
                    vain.removeAll(told.goods.get(goodIn(now, a)).fears);
                }
                return bits(vain);
            default:
                level();
                TreeSet<Integer> open = new TreeSet<>();
                told.goods.forEach(g -> open.addAll(g.fears));
                now.thinks.forEach(open::removeAll);
                return bits(open);
        }
    }

    /** From year 1 on, by a set of unsure thoughts that are otherwise; 0 for a good that isn't lost within 40 years. */
    int[] lostYears(int s) {
        World w = new World(told);
        for (int u : set(s)) {
            int[] two = told.unsure.get(u);
            TreeSet<Integer> thoughts = w.thinks.get(two[0]);
            if (!thoughts.remove(two[1])) {
                thoughts.add(two[1]);
            }
        }
        int[] years = new int[told.goods.size()];
        for (Event e : run(w, 40)) {
            if (e.what.equals("lost")) {
                years[e.who] = e.year;
            }
        }
        return years;
    }

    private List<Integer> wrongBy(int s) {
        int[] years = lostYears(s);
        List<Integer> wrong = new ArrayList<>();
        for (int g = 0; g < years.length; g++) {
            int befell = told.goods.get(g).befell;
            if (befell > 0 && years[g] != befell) {
                wrong.add(g);
            }
        }
        return wrong;
    }

    private long ofDoubts(String name, int a) {
        level();
        List<Integer> fits = new ArrayList<>();
        for (int s = 0; s < 1 << told.unsure.size(); s++) {
            if (wrongBy(s).isEmpty()) {
                fits.add(s);
            }
        }
        int best = -2;
        int least = Integer.MAX_VALUE;
        for (int u = 0; !fits.isEmpty() && u < told.unsure.size(); u++) {
            int bit = u;
            int yes = (int) fits.stream().filter(s -> set(s).contains(bit)).count();
            if (Math.max(yes, fits.size() - yes) < least) {
                least = Math.max(yes, fits.size() - yes);
                best = u;
            }
        }
        switch (name) {
            case "fits":
                return fits.size();
            case "fitAt":
                need(a >= 0 && a < fits.size(), 1);
                return fits.get(a);
            case "could":
                return fits.stream().reduce(0, (p, q) -> p | q);
            case "surely":
                return fits.isEmpty() ? 0 : fits.stream().reduce(-1, (p, q) -> p & q);
            case "ask":
                return best;
            case "askLeaves":
                return best < 0 ? -2 : least;
            default:
                return wrongBy(0).isEmpty() ? -2 : wrongBy(0).get(0);
        }
    }

    /** The polynomial of a ring: (k - 1)^n + (-1)^n (k - 1). */
    static long ring(int n, int k) {
        BigInteger less = BigInteger.valueOf(k - 1);
        return less.pow(n).add(n % 2 == 0 ? less : less.negate()).longValueExact();
    }

    private static int has(int rust, boolean holding, boolean other) {
        return holding && other ? -rust : holding ? 3 : other ? 1 : 2;
    }

    private long ofGames(String name, int a, int b, int c, int d) {
        level();
        switch (name) {
            case "weaves", "weavesFrom":
                range(a, 2, 18);
                range(b, 1, 9);
                return name.equals("weaves") ? ring(a, b) : ring(a, b) / b;
            case "strokes":
                range(a, 1, 9);
                range(b, 0, 2_000_000_000);
                for (int n = 2; n <= 18; n++) {
                    if (ring(n, a) >= b) {
                        return n;
                    }
                }
                return -2;
            case "holds":
                range(a, 0, 9);
                return d != 0 ? has(a, c != 0, b != 0) : has(a, b != 0, c != 0);
            default:
                range(a, 0, 9);
                List<Integer> all = new ArrayList<>();
                for (boolean gate : new boolean[] {false, true}) {
                    for (boolean man : new boolean[] {false, true}) {
                        if (has(a, !gate, man) <= has(a, gate, man) && has(a, !man, gate) <= has(a, man, gate)) {
                            all.add((gate ? 10 : 0) + (man ? 1 : 0));
                        }
                    }
                }
                return name.equals("rests") ? all.size() : all.isEmpty() ? -2 : all.get(0);
        }
    }

    /** In hundredths to the power of the thoughts told by then. */
    private BigInteger chance(World w, int g, int m, List<Integer> thoughts, int n) {
        if (thoughts.isEmpty()) {
            World then = new World(w);
            run(then, n);
            return then.lost[g] ? BigInteger.ZERO : BigInteger.ONE;
        }
        List<Integer> rest = thoughts.subList(1, thoughts.size());
        World slipped = new World(w);
        slipped.slipped.get(m).add(thoughts.get(0));
        return chance(w, g, m, rest, n).multiply(BigInteger.valueOf(100 - told.hurry))
            .add(chance(slipped, g, m, rest, n).multiply(BigInteger.valueOf(told.hurry)));
    }

    private int draw(World w, int seed) {
        int count = 0;
        long s = seed;
        for (int m = 0; m < told.makers.size(); m++) {
            for (int d : now.thinks.get(m)) {
                s = (75 * s + 74) % 65537;
                if (s % 100 < told.hurry) {
                    count++;
                    w.slipped.get(m).add(d);
                }
            }
        }
        return count;
    }

    private long ofHurry(String name, int a, int b, int c) {
        switch (name) {
            case "odds", "mean":
                good(a);
                range(b, 0, 60);
                int m = now.lies[a];
                List<Integer> thoughts = m < 0 ? List.of() : new ArrayList<>(now.thinks.get(m));
                BigInteger upper = chance(now, a, m, thoughts, b);
                BigInteger lower = BigInteger.valueOf(100).pow(thoughts.size());
                if (name.equals("mean")) {
                    upper = upper.multiply(BigInteger.valueOf(told.goods.get(a).worth));
                }
                BigInteger by = upper.gcd(lower);
                return (c != 0 ? lower : upper).divide(by).longValueExact();
            default:
                level();
                range(a, 0, 65536);
                World w = new World(now);
                if (name.equals("slips")) {
                    return draw(w, a);
                }
                range(b, 0, 60);
                draw(w, a);
                run(w, b);
                return worth(w);
        }
    }

    private void remember() {
        acts.add(new World(now));
        if (acts.size() > 16) {
            acts.remove(0);
        }
    }

    private long act(String name, int a, int b) {
        switch (name) {
            case "year":
                level();
                need(now.years < 999, 3);
                remember();
                int before = lostBits(now);
                run(now, 1);
                return lostBits(now) - before;
            case "put":
                good(a);
                maker(b);
                need(!now.lost[a] && goodIn(now, b) < 0, 5);
                remember();
                int from = now.lies[a];
                now.lies[a] = b;
                return from;
            case "take":
                good(a);
                need(now.lies[a] >= 0, 5);
                remember();
                int out = now.lies[a];
                now.lies[a] = -2;
                return out;
            case "think":
                maker(a);
                danger(b);
                remember();
                TreeSet<Integer> thoughts = now.thinks.get(a);
                if (!thoughts.remove(b)) {
                    thoughts.add(b);
                }
                return bits(thoughts);
            case "mend":
                maker(a);
                need(now.lasts[a] != told.makers.get(a).lasts, 5);
                remember();
                now.lasts[a] = told.makers.get(a).lasts;
                return 1;
            case "image":
                level();
                need(images.size() < 3, 3);
                images.add(new World(now));
                return images.size() - 1;
            default:
                throw new IllegalArgumentException(name);
        }
    }
}
