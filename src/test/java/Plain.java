import java.util.ArrayList;
import java.util.LinkedHashMap;
import java.util.List;
import java.util.Map;
import java.util.TreeMap;

/** The document written down a second time, as plainly as can be, to compare answers with. */
final class Plain {
    record Tree(int house, int work, List<Tree> parts) {
        int all() {
            return 1 + parts.stream().mapToInt(Tree::all).sum();
        }

        int allWork() {
            return work + parts.stream().mapToInt(Tree::allWork).sum();
        }

        int depth() {
            return 1 + parts.stream().mapToInt(Tree::depth).max().orElse(0);
        }

        int most() {
            return Math.max(parts.size(), parts.stream().mapToInt(Tree::most).max().orElse(0));
        }
    }

    record Letter(int serial, int kind, int from, int to, int grains, int arrives, Tree tree) {
    }

    static final class Fault extends RuntimeException {
        private static final long serialVersionUID = 1;
        final int at;

        Fault(int at) {
            this.at = at;
        }
    }

    /** Everything that undo brings back: named numbers, what waits in each house, and the letters. */
    static final class Whole {
        final Map<String, Integer> number = new TreeMap<>();
        final Map<Integer, List<Tree>> line = new TreeMap<>();
        final Map<Integer, Letter> letters = new LinkedHashMap<>();

        Whole copy() {
            Whole other = new Whole();
            other.number.putAll(number);
            line.forEach((house, trees) -> other.line.put(house, new ArrayList<>(trees)));
            other.letters.putAll(letters);
            return other;
        }

        int of(String name) {
            return number.getOrDefault(name, 0);
        }

        void add(String name, int more) {
            number.put(name, of(name) + more);
        }

        int ofHouses(String name) {
            int sum = 0;
            for (int h = 0; h < 6; h++) {
                sum += of(name + h);
            }
            return sum;
        }

        List<Tree> waits(int house) {
            return line.computeIfAbsent(house, h -> new ArrayList<>());
        }

        int way(int one, int other) {
            if (one == other) {
                return 1;
            }
            String name = "way" + Math.min(one, other) + Math.max(one, other);
            return number.getOrDefault(name, one == 6 || other == 6 ? 3 : 2);
        }

        int power() {
            return number.getOrDefault("set0", 8);
        }

        int least() {
            return number.getOrDefault("set1", 1);
        }

        int coin() {
            int coin = (int) Math.round(Math.pow(2, power()));
            add("minted", coin);
            add("coins", 1);
            return coin;
        }

        void send(int kind, int from, int to, int grains, Tree tree) {
            add("serial", 1);
            int serial = of("serial");
            letters.put(serial, new Letter(serial, kind, from, to, grains, of("time") + way(from, to), tree));
        }

        List<Letter> ordered() {
            List<Letter> all = new ArrayList<>(letters.values());
            all.sort((a, b) -> a.arrives != b.arrives ? a.arrives - b.arrives : a.serial - b.serial);
            return all;
        }

        void launch(List<Tree> trees) {
            for (Tree tree : trees) {
                add("launched", 1);
                send(0, 6, tree.house, coin(), tree);
            }
        }

        void sendAll(int h) {
            while (!waits(h).isEmpty() && of("grains" + h) >= 2 * least()) {
                Tree first = waits(h).remove(0);
                int half = of("grains" + h) / 2;
                add("grains" + h, -half);
                add("sent" + h, 1);
                send(0, h, first.house, half, first);
            }
            if (!waits(h).isEmpty() && of("out" + h) == 0) {
                number.put("out" + h, 1);
                add("asks" + h, 1);
                send(1, h, 6, 0, null);
            }
        }

        void tick() {
            add("time", 1);
            for (Letter letter : new ArrayList<>(letters.values())) {
                if (letter.arrives == of("time")) {
                    letters.remove(letter.serial);
                    arrive(letter);
                }
            }
            for (int h = 0; h < 6; h++) {
                if (of("busy" + h) == 1) {
                    work(h);
                }
            }
        }

        private void arrive(Letter letter) {
            int h = letter.to;
            if (letter.kind == 0) {
                number.put("busy" + h, 1);
                add("grains" + h, letter.grains);
                add("work" + h, letter.tree.work);
                add("arrived" + h, 1);
                waits(h).addAll(letter.tree.parts);
                sendAll(h);
            } else if (letter.kind == 1) {
                send(2, 6, letter.from, coin(), null);
            } else if (letter.kind == 2) {
                number.put("out" + h, 0);
                add("grains" + h, letter.grains);
                sendAll(h);
            } else {
                add("back", letter.grains);
            }
        }

        private void work(int h) {
            if (of("work" + h) > 0) {
                add("work" + h, -1);
            }
            if (of("work" + h) == 0 && waits(h).isEmpty() && of("out" + h) == 0) {
                number.put("busy" + h, 0);
                add("idles" + h, 1);
                int grains = of("grains" + h);
                if (grains > 0) {
                    number.put("grains" + h, 0);
                    send(3, h, 6, grains, null);
                }
            }
        }

        boolean quiet() {
            return of("minted") == of("back");
        }

        boolean idle() {
            return ofHouses("busy") == 0 && letters.values().stream().allMatch(l -> l.kind == 3);
        }

        int errands() {
            int all = letters.values().stream().mapToInt(l -> l.tree == null ? 0 : l.tree.all()).sum();
            for (int h = 0; h < 6; h++) {
                all += waits(h).stream().mapToInt(Tree::all).sum();
            }
            return all;
        }

        int lose(Letter letter) {
            letters.remove(letter.serial);
            if (letter.kind == 1) {
                number.put("astray" + letter.from, 1);
            }
            if (letter.kind == 2) {
                number.put("astray" + letter.to, 1);
            }
            add("lost", letter.grains);
            add("lostLetters", 1);
            number.put("missing", 1);
            return letter.grains;
        }

        int makeGood() {
            int grains = of("lost");
            add("back", grains);
            number.put("lost", 0);
            number.put("missing", 0);
            List<Integer> again = new ArrayList<>();
            for (int h = 0; h < 6; h++) {
                if (of("astray" + h) == 1) {
                    number.put("astray" + h, 0);
                    number.put("out" + h, 0);
                    again.add(h);
                }
            }
            again.forEach(this::sendAll);
            return grains;
        }
    }

    private Whole now = new Whole();
    private Whole kept;
    private final List<Whole> history = new ArrayList<>();
    private String text = "";
    private int at;

    private void record() {
        history.add(now.copy());
        if (history.size() > 4) {
            history.remove(0);
        }
    }

    private static boolean house(int h) {
        return h >= 0 && h <= 5;
    }

    private char next() {
        return at < text.length() ? text.charAt(at) : (char) 0;
    }

    private void want(boolean allowed) {
        if (!allowed || at >= text.length()) {
            throw new Fault(at);
        }
        at++;
    }

    private List<Tree> readList(char between) {
        List<Tree> trees = new ArrayList<>();
        trees.add(readTree());
        while (next() == between) {
            at++;
            trees.add(readTree());
        }
        return trees;
    }

    private Tree readTree() {
        char house = next();
        want("012345".indexOf(house) >= 0);
        want(next() == ':');
        String number = "" + next();
        want("0123456789".indexOf(next()) >= 0);
        while (next() != 0 && "0123456789".indexOf(next()) >= 0) {
            number += next();
            want(!number.startsWith("0") && Integer.parseInt(number) <= 20);
        }
        List<Tree> parts = List.of();
        if (next() == '(') {
            at++;
            parts = readList(',');
            want(next() == ')');
        }
        return new Tree(house - '0', Integer.parseInt(number), parts);
    }

    private List<Tree> readText() {
        at = 0;
        List<Tree> trees = readList(';');
        if (at < text.length()) {
            throw new Fault(at);
        }
        return trees;
    }

    int setTime(int one, int other, int ticks) {
        if (!house(one) || !house(other)) {
            return -1;
        }
        if (ticks < 1 || ticks > 9 || one == other) {
            return -2;
        }
        return put("way" + Math.min(one, other) + Math.max(one, other), now.way(one, other), ticks);
    }

    int setBankTime(int house, int ticks) {
        if (!house(house)) {
            return -1;
        }
        if (ticks < 1 || ticks > 9) {
            return -2;
        }
        return put("way" + house + 6, now.way(house, 6), ticks);
    }

    int set(int setting, int value) {
        if (setting != 0 && setting != 1) {
            return -1;
        }
        if (value < (setting == 0 ? 2 : 1) || value > (setting == 0 ? 16 : 99)) {
            return -2;
        }
        return put("set" + setting, setting == 0 ? now.power() : now.least(), value);
    }

    private int put(String name, int before, int value) {
        if (before == value) {
            return -5;
        }
        record();
        now.number.put(name, value);
        return before;
    }

    int launch() {
        try {
            List<Tree> trees = readText();
            if (now.errands() + trees.stream().mapToInt(Tree::all).sum() > 80) {
                return -3;
            }
            record();
            now.launch(trees);
            return trees.size();
        } catch (Fault fault) {
            return -100 - fault.at;
        }
    }

    int pass(int ticks) {
        if (ticks < 1 || ticks > 100) {
            return -2;
        }
        record();
        for (int i = 0; i < ticks; i++) {
            now.tick();
        }
        return now.of("time");
    }

    int lose(int rank) {
        if (rank < 0) {
            return -2;
        }
        if (rank >= now.letters.size()) {
            return -1;
        }
        record();
        return now.lose(now.ordered().get(rank));
    }

    int makeGood() {
        if (now.of("missing") == 0) {
            return -5;
        }
        record();
        return now.makeGood();
    }

    int type(char character) {
        if (text.length() == 60) {
            return -3;
        }
        text += character;
        return text.length();
    }

    int clearText() {
        int length = text.length();
        text = "";
        return length;
    }

    int undo() {
        if (history.isEmpty()) {
            return -5;
        }
        now = history.remove(history.size() - 1);
        return history.size();
    }

    int keep() {
        kept = now.copy();
        return now.of("time");
    }

    int restore() {
        if (kept == null) {
            return -5;
        }
        record();
        now = kept.copy();
        return now.of("time");
    }

    int time(int one, int other) {
        return house(one) && house(other) ? now.way(one, other) : -1;
    }

    int bankTime(int house) {
        return house(house) ? now.way(house, 6) : -1;
    }

    int house(int h, int what) {
        if (!house(h)) {
            return -1;
        }
        if (what == 3) {
            return now.waits(h).size();
        }
        String[] names = {"busy", "grains", "work", "", "out", "arrived", "sent", "asks", "idles"};
        return what < 0 || what >= names.length ? -2 : now.of(names[what] + h);
    }

    int waiting(int h, int place, int what) {
        if (!house(h)) {
            return -1;
        }
        if (what < 0 || what > 3 || place < 0) {
            return -2;
        }
        if (place >= now.waits(h).size()) {
            return -5;
        }
        Tree tree = now.waits(h).get(place);
        return new int[] {tree.house, tree.work, tree.parts.size(), tree.all()}[what];
    }

    int message(int rank, int what) {
        if (what < 0 || what > 6 || rank < 0) {
            return -2;
        }
        if (rank >= now.letters.size()) {
            return -5;
        }
        Letter l = now.ordered().get(rank);
        int work = l.tree == null ? 0 : l.tree.work;
        int all = l.tree == null ? 0 : l.tree.all();
        return new int[] {l.kind, l.from, l.to, l.grains, l.arrives - now.of("time"), work, all}[what];
    }

    int total(int what) {
        if (what < 0 || what > 16) {
            return -2;
        }
        return new int[] {
            now.of("time"), now.of("minted"), now.of("back"), now.ofHouses("grains"),
            now.letters.values().stream().mapToInt(Letter::grains).sum(), now.of("lost"),
            now.letters.size(), now.ofHouses("busy"), now.of("launched"), now.of("coins"),
            now.of("lostLetters"), now.quiet() ? 1 : 0, now.idle() ? 1 : 0, now.power(), now.least(),
            history.size(), text.length()}[what];
    }

    int quietIn() {
        Whole then = now.copy();
        for (int ticks = 0; ticks <= 500; ticks++, then.tick()) {
            if (then.quiet()) {
                return ticks;
            }
        }
        return -5;
    }

    int idleIn() {
        Whole then = now.copy();
        for (int ticks = 0; ticks <= 500; ticks++, then.tick()) {
            if (then.idle()) {
                return ticks;
            }
        }
        return -5;
    }

    int planned(int what) {
        if (what < 0 || what > 3) {
            return -2;
        }
        try {
            Tree all = new Tree(0, 0, readText());
            int most = all.parts.stream().mapToInt(Tree::most).max().orElse(0);
            return new int[] {all.all() - 1, all.allWork(), all.depth() - 1, most}[what];
        } catch (Fault fault) {
            return -100 - fault.at;
        }
    }

    int leastCoin() {
        try {
            List<Tree> trees = readText();
            for (int power = 2; power <= 16; power++) {
                Whole then = new Whole();
                now.number.forEach((name, value) -> {
                    if (name.startsWith("way") || name.equals("set1")) {
                        then.number.put(name, value);
                    }
                });
                then.number.put("set0", power);
                then.launch(trees);
                for (int ticks = 0; ticks < 500 && !then.idle(); ticks++) {
                    then.tick();
                }
                if (then.ofHouses("asks") == 0) {
                    return power;
                }
            }
            return -5;
        } catch (Fault fault) {
            return -100 - fault.at;
        }
    }
}
