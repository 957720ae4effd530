import java.util.ArrayList;
import java.util.List;
import java.util.Random;

/** Makes texts of levels, sound ones and spoilt ones, by a seed. */
final class TextMaker {
    private final Random random;
    private final List<String> spare = new ArrayList<>();
    /** Goods then fear little and makers think of much, so that something is left to reckon with. */
    private boolean gentle = false;

    TextMaker(Random random) {
        this.random = random;
    }

    private int upTo(int most) {
        return random.nextInt(most + 1);
    }

    private int between(int least, int most) {
        return least + upTo(most - least);
    }

    private <T> T one(List<T> all) {
        return all.get(random.nextInt(all.size()));
    }

    private List<String> someOf(List<String> all, boolean thoughts) {
        List<String> left = new ArrayList<>(all);
        List<String> some = new ArrayList<>();
        int count = between(1, Math.min(all.size(), random.nextInt(3) == 0 ? 8 : 3));
        if (gentle) {
            count = thoughts ? between((all.size() + 1) / 2, all.size()) : between(1, Math.min(all.size(), 2));
        }
        for (int i = 0; i < count; i++) {
            some.add(left.remove(random.nextInt(left.size())));
        }
        return some;
    }

    private String newName() {
        return spare.remove(random.nextInt(spare.size()));
    }

    String sound() {
        while (true) {
            String text = tryOne();
            if (text.length() <= 880) {
                return text;
            }
        }
    }

    private String tryOne() {
        gentle = random.nextBoolean();
        spare.clear();
        spare.addAll(List.of("a", "b", "c", "d", "e", "f", "g", "h", "every", "from", "lasts", "grave", "happy", "hurry",
            "year", "worth", "fears", "thinks", "zz", "abcdefgh", "ink", "i", "levels", "zzzzzzzz", "aa", "hasty"));
        List<String> lines = new ArrayList<>();
        List<String> dangers = new ArrayList<>();
        List<String> makers = new ArrayList<>();
        List<String> goods = new ArrayList<>();
        int hurry = random.nextInt(4) == 0 ? 100 * upTo(1) : upTo(100);
        lines.add("level hurry " + hurry);
        int dangerCount = between(1, 8);
        for (int i = 0; i < dangerCount; i++) {
            dangers.add(newName());
            lines.add("danger " + dangers.get(i) + " every " + between(1, 9) + " from " + (gentle || random.nextInt(3) == 0 ? between(1, 30) : between(1, 6)));
        }
        int makerCount = between(1, 5);
        for (int i = 0; i < makerCount; i++) {
            makers.add(newName());
            lines.add("maker " + makers.get(i) + " " + one(List.of("grave", "hasty", "happy")) + " lasts "
                + (random.nextInt(3) == 0 ? between(1, 4) : between(1, 30)) + " thinks " + String.join(",", someOf(dangers, true)));
        }
        int goodCount = between(1, 4);
        for (int i = 0; i < goodCount; i++) {
            goods.add(newName());
            lines.add("good " + goods.get(i) + " worth " + between(1, random.nextBoolean() ? 3 : 99) + " fears " + String.join(", ", someOf(dangers, false)));
        }
        List<String> free = new ArrayList<>(makers);
        for (String g : goods) {
            if (!free.isEmpty() && random.nextInt(4) != 0) {
                lines.add("in " + g + " " + free.remove(random.nextInt(free.size())));
            }
        }
        List<String> doubts = new ArrayList<>();
        int doubtCount = upTo(4);
        for (int i = 0; i < doubtCount; i++) {
            String doubt = "unsure " + one(makers) + " " + one(dangers);
            if (!doubts.contains(doubt)) {
                doubts.add(doubt);
            }
        }
        lines.addAll(doubts);
        int[] truth = random.nextInt(3) == 0 ? new int[goods.size()] : trueYears(String.join(";", lines), doubts.size());
        for (int g = 0; g < goods.size(); g++) {
            if (truth[g] > 0 ? random.nextInt(4) != 0 : random.nextInt(8) == 0) {
                int year = random.nextInt(4) == 0 ? between(1, 40) : between(1, 6);
                lines.add("befell " + goods.get(g) + " year " + (truth[g] > 0 ? truth[g] : year));
            }
        }
        return spaced(String.join(";", lines));
    }

    /** When each good was lost if some of the doubts are right, so that something fits. */
    private int[] trueYears(String text, int doubts) {
        Oracle oracle = new Oracle();
        oracle.told = Oracle.parse(text);
        return oracle.lostYears(random.nextInt(1 << doubts));
    }

    private String spaced(String text) {
        if (random.nextInt(3) != 0) {
            return text;
        }
        String wider = text.replace(";", random.nextBoolean() ? " ; " : ";  ");
        return random.nextBoolean() ? " " + wider : wider + "   ";
    }

    /** One to three changes, each of which may leave the text sound. */
    String spoilt() {
        String text = sound();
        int changes = between(1, 3);
        for (int i = 0; i < changes; i++) {
            text = change(text);
        }
        return text.length() > 880 ? text.substring(0, 880) : text;
    }

    private String change(String text) {
        if (text.isEmpty()) {
            return text;
        }
        int at = random.nextInt(text.length());
        List<String> words = new ArrayList<>(List.of(text.split("(?<=[ ;,])|(?=[ ;,])")));
        int w = random.nextInt(words.size());
        List<String> lines = new ArrayList<>(List.of(text.split(";", -1)));
        int l = random.nextInt(lines.size());
        switch (random.nextInt(13)) {
            case 0:
                return text.substring(0, at);
            case 1:
                return text.substring(0, at) + text.substring(at + 1);
            case 2:
                return text.substring(0, at) + one(List.of(";", ",", " ", "a", "0", "9", "A", ".", "" + (char) 0, "" + (char) 233, "-", "{")) + text.substring(at);
            case 3:
                words.remove(w);
                return String.join("", words);
            case 4:
                words.set(w, words.get(random.nextInt(words.size())));
                return String.join("", words);
            case 5:
                words.add(w, words.get(random.nextInt(words.size())));
                return String.join("", words);
            case 6:
                words.set(w, one(List.of("level", "danger", "maker", "good", "in", "unsure", "befell", "grave", "every", "a", "year", "abcdefghi")));
                return String.join("", words);
            case 7:
                return withOtherNumber(words);
            case 8, 9:
                lines.add(random.nextInt(lines.size() + 1), lines.get(l));
                return String.join(";", lines);
            case 10:
                lines.add(random.nextInt(lines.size()), lines.remove(l));
                return String.join(";", lines);
            case 11:
                lines.remove(l);
                return String.join(";", lines);
            default:
                lines.add(extraLine(lines));
                return String.join(";", lines);
        }
    }

    private String withOtherNumber(List<String> words) {
        for (int tries = 0; tries < 40; tries++) {
            int w = random.nextInt(words.size());
            if (words.get(w).matches("[0-9]+")) {
                words.set(w, one(List.of("0", "1", "9", "10", "30", "31", "40", "41", "99", "100", "101", "999", "1000", "007", "0009", "00")));
                return String.join("", words);
            }
        }
        return String.join("", words);
    }

    /** A line of fresh names, or one that names two of what stands there already. */
    private String extraLine(List<String> lines) {
        String[] some = one(lines).trim().split("[ ,]+");
        String[] others = one(lines).trim().split("[ ,]+");
        String x = some.length > 1 ? some[1] : "a";
        String y = others.length > 1 ? others[1] : "b";
        return one(List.of("danger newd every 2 from 2", "maker newm grave lasts 2 thinks " + x, "good newg worth 2 fears " + x,
            "in " + x + " " + y, "unsure " + x + " " + y, "befell " + x + " year 3", "good " + x + " worth 3 fears " + y));
    }
}
