import java.util.Random;

/** Runs of 512 calls each, with right and wrong arguments, compared with the plain second writing. */
public final class ManyRunsTest {
    private static final int RUNS = 400;
    private static final int CALLS = 512;
    private static final int[] ODD = {-1, -2, 6, 7, 17, 100, 101, Integer.MAX_VALUE, Integer.MIN_VALUE};
    private static final Check CHECK = new Check();

    private final CoinErrands x = new CoinErrands();
    private final Plain plain = new Plain();
    private final Random random;
    private final int run;
    private String planned = "";

    private ManyRunsTest(int run) {
        this.run = run;
        random = new Random(run);
    }

    public static void main(String[] args) {
        for (int run = 0; run < RUNS; run++) {
            new ManyRunsTest(run).go();
        }
        new ManyRunsTest(RUNS).crowd();
        CHECK.end();
    }

    private void go() {
        settle();
        for (int call = 0; call < CALLS; call++) {
            step(call);
        }
        lookAtAll(CALLS);
    }

    /** As many messages as there can be: errands up to the limit, and six houses idle in each tick. */
    private void crowd() {
        for (int house = 0; house < 6; house++) {
            both("setBankTime", plain.setBankTime(house, 9), x.setBankTime(house, 9));
        }
        for (char character : "0:0;1:0;2:0;3:0;4:0;5:0;0:0;1:0".toCharArray()) {
            type(character);
        }
        int most = 0;
        for (int call = 0; call < 100; call++) {
            both("launch", plain.launch(), x.launch());
            if (call % 30 == 29) {
                both("launch up to 80", plain.launch(), x.launch());
            }
            lookAtAll(call);
            most = Math.max(most, plain.total(6));
            both("quietIn", plain.quietIn(), x.quietIn());
            both("pass 1", plain.pass(1), x.pass(1));
        }
        both("80 errands and 54 messages home", 80 + 54, most);
    }

    /** Small coins and large parts in some runs, so that houses have to ask. */
    private void settle() {
        if (run % 3 != 0) {
            both("set", plain.set(0, 2 + run % 5), x.set(0, 2 + run % 5));
        }
        if (run % 4 != 0) {
            both("set", plain.set(1, 1 + run % 9), x.set(1, 1 + run % 9));
        }
    }

    private void both(String call, int want, int got) {
        CHECK.due("run " + run + ": " + call, want, got);
    }

    private int upTo(int least, int most) {
        return random.nextInt(40) == 0 ? ODD[random.nextInt(ODD.length)] : least + random.nextInt(most - least + 1);
    }

    private void step(int call) {
        int kind = random.nextInt(100);
        if (kind < 30) {
            write();
        } else if (kind < 38) {
            both(call + " launch", plain.launch(), x.launch());
        } else if (kind < 58) {
            int ticks = random.nextInt(10) == 0 ? upTo(1, 100) : upTo(1, 5);
            both(call + " pass " + ticks, plain.pass(ticks), x.pass(ticks));
        } else if (kind < 63) {
            int rank = upTo(0, 6);
            both(call + " lose " + rank, plain.lose(rank), x.lose(rank));
        } else if (kind < 66) {
            both(call + " makeGood", plain.makeGood(), x.makeGood());
        } else if (kind < 72) {
            change(call);
        } else if (kind < 76) {
            goBack(call);
        } else if (kind < 82) {
            foretell(call);
        } else {
            look(call);
        }
        if (call % 16 == 0) {
            lookAtAll(call);
        }
    }

    private void type(char character) {
        both("type " + (int) character, plain.type(character), x.type(character));
    }

    /** Types the next signs of a planned text, at times a wrong one, or begins a new one. */
    private void write() {
        if (planned.isEmpty()) {
            if (random.nextInt(2) == 0) {
                both("clearText", plain.clearText(), x.clearText());
                StringBuilder text = new StringBuilder();
                list(text, 0, ';', 1 + random.nextInt(3));
                planned = text.toString();
            }
            return;
        }
        int signs = Math.min(planned.length(), 30);
        for (int i = 0; i < signs; i++) {
            boolean wrong = random.nextInt(300) == 0;
            type(wrong ? ":;,()0123456789 x".charAt(random.nextInt(17)) : planned.charAt(i));
        }
        planned = planned.substring(signs);
        if (planned.isEmpty()) {
            both("launch", plain.launch(), x.launch());
        }
    }

    private void list(StringBuilder text, int depth, char between, int count) {
        for (int i = 0; i < count; i++) {
            if (i > 0) {
                text.append(between);
            }
            text.append(random.nextInt(6)).append(':').append(random.nextInt(4) == 0 ? random.nextInt(22) : random.nextInt(4));
            if (text.length() < 40 && random.nextInt(depth + 2) < 2) {
                list(text.append('('), depth + 1, ',', 1 + random.nextInt(4));
                text.append(')');
            }
        }
    }

    private void change(int call) {
        int a = upTo(0, 5);
        int b = upTo(0, 5);
        int value = upTo(1, 9);
        switch (random.nextInt(4)) {
            case 0 -> both(call + " setTime " + a + " " + b + " " + value, plain.setTime(a, b, value), x.setTime(a, b, value));
            case 1 -> both(call + " setBankTime " + a + " " + value, plain.setBankTime(a, value), x.setBankTime(a, value));
            case 2 -> {
                int power = upTo(2, 6);
                both(call + " set 0 " + power, plain.set(0, power), x.set(0, power));
            }
            default -> {
                int part = random.nextInt(5) == 0 ? upTo(1, 99) : value;
                int setting = upTo(1, 1);
                both(call + " set " + setting + " " + part, plain.set(setting, part), x.set(setting, part));
            }
        }
    }

    private void goBack(int call) {
        switch (random.nextInt(4)) {
            case 0 -> both(call + " keep", plain.keep(), x.keep());
            case 1 -> both(call + " restore", plain.restore(), x.restore());
            default -> both(call + " undo", plain.undo(), x.undo());
        }
    }

    private void foretell(int call) {
        switch (random.nextInt(4)) {
            case 0 -> both(call + " quietIn", plain.quietIn(), x.quietIn());
            case 1 -> both(call + " idleIn", plain.idleIn(), x.idleIn());
            case 2 -> both(call + " leastCoin", plain.leastCoin(), x.leastCoin());
            default -> {
                int what = upTo(0, 3);
                both(call + " planned " + what, plain.planned(what), x.planned(what));
            }
        }
    }

    private void look(int call) {
        int house = upTo(0, 5);
        int place = upTo(0, 4);
        int what = upTo(0, 6);
        both(call + " house", plain.house(house, what), x.house(house, what));
        both(call + " waiting", plain.waiting(house, place, what), x.waiting(house, place, what));
        both(call + " message", plain.message(place, what), x.message(place, what));
        both(call + " total", plain.total(what), x.total(what));
        both(call + " time", plain.time(house, place), x.time(house, place));
        both(call + " bankTime", plain.bankTime(house), x.bankTime(house));
    }

    private void lookAtAll(int call) {
        for (int what = 0; what <= 16; what++) {
            both(call + " total " + what, plain.total(what), x.total(what));
        }
        for (int house = 0; house < 6; house++) {
            for (int what = 0; what <= 8; what++) {
                both(call + " house " + house + " " + what, plain.house(house, what), x.house(house, what));
            }
            for (int place = 0; place <= plain.house(house, 3); place++) {
                for (int what = 0; what <= 3; what++) {
                    both(call + " waiting " + house + " " + place + " " + what, plain.waiting(house, place, what), x.waiting(house, place, what));
                }
            }
        }
        for (int rank = 0; rank <= plain.total(6); rank++) {
            for (int what = 0; what <= 6; what++) {
                both(call + " message " + rank + " " + what, plain.message(rank, what), x.message(rank, what));
            }
        }
    }
}
