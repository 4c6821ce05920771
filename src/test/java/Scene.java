import java.util.HashMap;
import java.util.List;
import java.util.Map;
import java.util.function.Consumer;
import java.util.function.Supplier;

/** A state in which calls are tried, and all that can be seen of it, now and later on. */
final class Scene {
    /** What is hidden now shows after these calls: the history, the snapshot, and what is lost. */
    private static final List<Consumer<CoinErrands>> LATER = List.of(
        x -> { },
        x -> undo(x, 1),
        x -> undo(x, 2),
        x -> undo(x, 3),
        x -> undo(x, 4),
        x -> undo(x, 5),
        CoinErrands::restore,
        CoinErrands::makeGood,
        CoinErrands::launch,
        x -> x.type(';'),
        x -> x.pass(1),
        x -> x.pass(7),
        x -> {
            x.makeGood();
            x.pass(5);
        });

    static final Scene NEW = new Scene("a new object", CoinErrands::new);
    static final Scene MIDDLE = new Scene("the middle of a run", Scene::middle);
    static final Scene CROWD = new Scene("a crowd", Scene::crowd);
    static final List<Scene> ALL = List.of(NEW, MIDDLE, CROWD);

    private final String name;
    private final Supplier<CoinErrands> maker;
    private final Map<Integer, String> untouched = new HashMap<>();

    Scene(String name, Supplier<CoinErrands> maker) {
        this.name = name;
        this.maker = maker;
    }

    String name() {
        return name;
    }

    CoinErrands make() {
        return maker.get();
    }

    static int laters() {
        return LATER.size();
    }

    /** What is seen later on if nothing was called before. */
    String untouched(int later) {
        return untouched.computeIfAbsent(later, l -> look(make(), l));
    }

    static String look(CoinErrands x, int later) {
        LATER.get(later).accept(x);
        return look(x);
    }

    private static void undo(CoinErrands x, int times) {
        for (int i = 0; i < times; i++) {
            x.undo();
        }
    }

    /** All that can be asked, a line each. */
    static String look(CoinErrands x) {
        StringBuilder seen = new StringBuilder();
        for (int what = 0; what <= 16; what++) {
            line(seen, "total " + what, x.total(what));
        }
        for (int house = 0; house < 6; house++) {
            lookAtHouse(seen, x, house);
        }
        for (int rank = 0; rank < x.total(6); rank++) {
            for (int what = 0; what <= 6; what++) {
                line(seen, "message " + rank + " " + what, x.message(rank, what));
            }
        }
        for (int what = 0; what <= 3; what++) {
            line(seen, "planned " + what, x.planned(what));
        }
        line(seen, "quietIn", x.quietIn());
        line(seen, "idleIn", x.idleIn());
        line(seen, "leastCoin", x.leastCoin());
        return seen.toString();
    }

    private static void lookAtHouse(StringBuilder seen, CoinErrands x, int house) {
        for (int what = 0; what <= 8; what++) {
            line(seen, "house " + house + " " + what, x.house(house, what));
        }
        for (int place = 0; place < x.house(house, 3); place++) {
            for (int what = 0; what <= 3; what++) {
                line(seen, "waiting " + house + " " + place + " " + what, x.waiting(house, place, what));
            }
        }
        for (int other = 0; other < 6; other++) {
            line(seen, "time " + house + " " + other, x.time(house, other));
        }
        line(seen, "bankTime " + house, x.bankTime(house));
    }

    private static void line(StringBuilder seen, String call, int answer) {
        seen.append(call).append(" = ").append(answer).append('\n');
    }

    static String firstDifference(String one, String other) {
        String[] ones = one.split("\n");
        String[] others = other.split("\n");
        for (int i = 0; i < ones.length && i < others.length; i++) {
            if (!ones[i].equals(others[i])) {
                return ones[i] + ", not " + others[i];
            }
        }
        return ones.length == others.length ? "nothing" : "how much there is";
    }

    /**
     * Messages of all four kinds, errands that wait, an ask and an errand that are lost, a full
     * history, a snapshot of another time, and a text.
     */
    private static CoinErrands middle() {
        CoinErrands x = made(2, 3, "0:3(1:2(2:1),3:0);4:1;5:9(0:0);2:0(2:0,1:20)");
        x.setBankTime(0, 1);
        x.setBankTime(2, 5);
        x.setTime(0, 1, 4);
        x.launch();
        x.setBankTime(4, 8);
        x.pass(3);
        x.keep();
        x.lose(0);
        x.pass(1);
        x.launch();
        x.lose(x.total(6) - 1);
        x.pass(2);
        return x;
    }

    /** As many errands as there may be, under way and waiting, and a text of 60 characters. */
    private static CoinErrands crowd() {
        CoinErrands x = made(2, 50, "0:0(1:0,2:0(3:0(4:0)));1:0(0:0);2:0(5:0(5:0));3:0(3:0)");
        for (int i = 0; i < 5; i++) {
            x.launch();
        }
        x.pass(3);
        x.launch();
        Check.retype(x, "0:9");
        for (int i = 0; i < 80 && x.launch() > 0; i++) {
            Check.retype(x, "1:9");
        }
        Check.retype(x, "0:0;0:0;0:0;0:0;0:0;0:0;0:0;0:0;0:0;0:0;0:0;0:0;0:0;0:0;0:00");
        return x;
    }

    static CoinErrands made(int power, int leastPart, String text) {
        CoinErrands x = new CoinErrands();
        x.set(0, power);
        x.set(1, leastPart);
        Check.type(x, text);
        return x;
    }
}
