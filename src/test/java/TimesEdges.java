/** Promises 1 to 4, 14 and 15 at their edges: a new object, times and settings. */
final class TimesEdges {
    private static final int[] NO_HOUSES = {-1, 6, Integer.MIN_VALUE, Integer.MAX_VALUE};
    private static final int[] NO_TICKS = {0, 10, -1, Integer.MIN_VALUE, Integer.MAX_VALUE};

    private final Edges edges;

    TimesEdges(Edges edges) {
        this.edges = edges;
    }

    void look() {
        newObject();
        setTime();
        housesOfSetTime();
        ticksOfSetTime();
        setTimeOfOneHouse();
        setTimeThatIsSo();
        setTimeOnTheWay();
        setBankTime();
        houseOfSetBankTime();
        ticksOfSetBankTime();
        setBankTimeThatIsSo();
        setBankTimeOnTheWay();
        settings();
        valuesOfSettings();
        settingsThatAreSo();
        settingsFromThenOn();
        time();
        housesOfTime();
        bankTime();
        houseOfBankTime();
    }

    private void newObject() {
        edges.names("Promise 1", "Creates idle houses at the time 0.");
        CoinErrands x = new CoinErrands();
        for (int what = 0; what <= 16; what++) {
            int want = what == 11 || what == 12 || what == 14 ? 1 : what == 13 ? 8 : 0;
            edges.due("total " + what, want, x.total(what));
        }
        for (int house = 0; house <= 5; house++) {
            for (int what = 0; what <= 8; what++) {
                edges.due("house " + house + " " + what, 0, x.house(house, what));
            }
            edges.due("waiting " + house, CoinErrands.NONE, x.waiting(house, 0, 0));
        }
        edges.due("message", CoinErrands.NONE, x.message(0, 0));
    }

    private void setTime() {
        edges.names("Promise 2", "Sets the time that messages take between two houses.");
        edges.names("Promise 2", "Returns the time that they took;");
        for (int one = 0; one <= 5; one++) {
            for (int other = 0; other <= 5; other++) {
                if (one != other) {
                    CoinErrands x = new CoinErrands();
                    edges.due("the first time", 2, x.setTime(one, other, 9));
                    edges.due("the same both ways", 9, x.setTime(other, one, 1));
                    edges.due("time", 1, x.time(one, other));
                    edges.due("undo", 1, x.undo());
                    edges.due("time after undo", 9, x.time(other, one));
                    edges.due("no bank time", 3, x.bankTime(one));
                    edges.due("no time of another pair", 2, x.time((one + 1) % 6 == other ? (one + 2) % 6 : (one + 1) % 6, one));
                }
            }
        }
    }

    private void housesOfSetTime() {
        edges.names("Promise 2", "`one`: a house");
        edges.due("the first house", 2, new CoinErrands().setTime(0, 3, 4));
        edges.due("the last house", 2, new CoinErrands().setTime(5, 3, 4));
        edges.names("Promise 2", "`other`: another house");
        edges.due("the first house", 2, new CoinErrands().setTime(3, 0, 4));
        edges.due("the last house", 2, new CoinErrands().setTime(3, 5, 4));
        edges.names("Promise 2", "UNKNOWN (a house);");
        for (int none : NO_HOUSES) {
            edges.refused("setTime(" + none + ", 0, 5)", CoinErrands.UNKNOWN, x -> x.setTime(none, 0, 5));
            edges.refused("setTime(0, " + none + ", 5)", CoinErrands.UNKNOWN, x -> x.setTime(0, none, 5));
            edges.refused("setTime(" + none + ", " + none + ", 0)", CoinErrands.UNKNOWN, x -> x.setTime(none, none, 0));
            edges.refused("setTime(5, " + none + ", 10)", CoinErrands.UNKNOWN, x -> x.setTime(5, none, 10));
        }
    }

    private void ticksOfSetTime() {
        edges.names("Promise 2", "`ticks`: 1 to 9");
        edges.due("the fewest", 2, new CoinErrands().setTime(4, 3, 1));
        edges.due("the most", 2, new CoinErrands().setTime(4, 3, 9));
        edges.names("Promise 2", "OUT_OF_RANGE (ticks,");
        for (int ticks : NO_TICKS) {
            edges.refused("setTime(4, 3, " + ticks + ")", CoinErrands.OUT_OF_RANGE, x -> x.setTime(4, 3, ticks));
        }
    }

    private void setTimeOfOneHouse() {
        edges.names("Promise 2", "or both are the same house);");
        for (int house = 0; house <= 5; house++) {
            int same = house;
            edges.refused("setTime of " + same + " to itself, 2", CoinErrands.OUT_OF_RANGE, x -> x.setTime(same, same, 2));
            edges.refused("setTime of " + same + " to itself, as it is", CoinErrands.OUT_OF_RANGE, x -> x.setTime(same, same, 1));
        }
    }

    private void setTimeThatIsSo() {
        edges.names("Promise 2", "NONE if it is so already.");
        edges.refusedIn(Scene.NEW, "setTime as at first", CoinErrands.NONE, x -> x.setTime(0, 5, 2));
        edges.refusedIn(Scene.MIDDLE, "setTime as it was set", CoinErrands.NONE, x -> x.setTime(0, 1, 4));
        edges.refusedIn(Scene.MIDDLE, "setTime as it was set, the other way", CoinErrands.NONE, x -> x.setTime(1, 0, 4));
        CoinErrands x = new CoinErrands();
        x.setTime(0, 1, 9);
        x.setTime(0, 1, 2);
        edges.due("set back", CoinErrands.NONE, x.setTime(0, 1, 2));
        edges.due("one more or less is a change", 2, x.setTime(0, 1, 3));
    }

    private void setTimeOnTheWay() {
        edges.names("Promise 2", "(Messages that are on their way arrive as before.)");
        CoinErrands x = Check.launched("1:0(4:3)");
        x.pass(3);
        edges.due("kind", 0, x.message(0, 0));
        x.setTime(1, 4, 9);
        edges.due("ticks left", 2, x.message(0, 4));
        x.setTime(1, 4, 1);
        edges.due("ticks left", 2, x.message(0, 4));
        x.pass(1);
        edges.due("not sooner", 0, x.house(4, 5));
        x.setTime(1, 4, 8);
        x.pass(1);
        edges.due("nor later", 1, x.house(4, 5));
    }

    private void setBankTime() {
        edges.names("Promise 3", "Sets the time that messages take between a house and the bank.");
        edges.names("Promise 3", "Returns the time that they took;");
        for (int house = 0; house <= 5; house++) {
            CoinErrands x = new CoinErrands();
            edges.due("the first time", 3, x.setBankTime(house, 9));
            edges.due("the time then", 9, x.setBankTime(house, 1));
            edges.due("time", 1, x.bankTime(house));
            edges.due("another house", 3, x.bankTime((house + 1) % 6));
            edges.due("no time between houses", 2, x.time(house, (house + 1) % 6));
        }
    }

    private void houseOfSetBankTime() {
        edges.names("Promise 3", "`house`: a house");
        edges.due("the first house", 3, new CoinErrands().setBankTime(0, 4));
        edges.due("the last house", 3, new CoinErrands().setBankTime(5, 4));
        edges.names("Promise 3", "UNKNOWN;");
        for (int none : NO_HOUSES) {
            edges.refused("setBankTime(" + none + ", 5)", CoinErrands.UNKNOWN, x -> x.setBankTime(none, 5));
            edges.refused("setBankTime(" + none + ", 0)", CoinErrands.UNKNOWN, x -> x.setBankTime(none, 0));
        }
    }

    private void ticksOfSetBankTime() {
        edges.names("Promise 3", "`ticks`: 1 to 9");
        edges.due("the fewest", 3, new CoinErrands().setBankTime(4, 1));
        edges.due("the most", 3, new CoinErrands().setBankTime(4, 9));
        edges.names("Promise 3", "OUT_OF_RANGE;");
        for (int ticks : NO_TICKS) {
            edges.refused("setBankTime(4, " + ticks + ")", CoinErrands.OUT_OF_RANGE, x -> x.setBankTime(4, ticks));
        }
    }

    private void setBankTimeThatIsSo() {
        edges.names("Promise 3", "NONE if it is so already.");
        edges.refusedIn(Scene.NEW, "setBankTime as at first", CoinErrands.NONE, x -> x.setBankTime(5, 3));
        edges.refusedIn(Scene.MIDDLE, "setBankTime as it was set", CoinErrands.NONE, x -> x.setBankTime(4, 8));
        CoinErrands x = new CoinErrands();
        x.setBankTime(0, 9);
        x.setBankTime(0, 3);
        edges.due("set back", CoinErrands.NONE, x.setBankTime(0, 3));
        edges.due("one more or less is a change", 3, x.setBankTime(0, 4));
    }

    private void setBankTimeOnTheWay() {
        edges.names("Promise 3", "(Messages that are on their way arrive as before.)");
        CoinErrands x = Check.launched("2:0");
        x.setBankTime(2, 9);
        edges.due("ticks left", 3, x.message(0, 4));
        x.pass(2);
        x.setBankTime(2, 1);
        edges.due("not sooner", 0, x.house(2, 5));
        x.pass(1);
        edges.due("nor later", 1, x.house(2, 5));
        edges.due("home with the time of then", 1, x.message(0, 4));
    }

    private void settings() {
        edges.names("Promise 4", "Changes a setting.");
        edges.names("Promise 4", "`setting`: 0 or 1");
        edges.due("setting 0", 8, new CoinErrands().set(0, 3));
        edges.due("setting 1", 1, new CoinErrands().set(1, 3));
        edges.names("Promise 4", "UNKNOWN;");
        for (int setting : new int[] {-1, 2, Integer.MIN_VALUE, Integer.MAX_VALUE}) {
            for (int value : new int[] {8, 1, 0, 100}) {
                edges.refused("set(" + setting + ", " + value + ")", CoinErrands.UNKNOWN, x -> x.set(setting, value));
            }
        }
    }

    private void valuesOfSettings() {
        edges.names("Promise 4", "`value`: in its range");
        edges.names("Promise 4", "Returns the previous value;");
        CoinErrands x = new CoinErrands();
        edges.due("the least of 0", 8, x.set(0, 2));
        edges.due("the greatest of 0", 2, x.set(0, 16));
        edges.due("the one before", 16, x.set(0, 15));
        edges.due("the greatest of 1", 1, x.set(1, 99));
        edges.due("the least of 1", 99, x.set(1, 1));
        edges.due("the other setting is as it was", 15, x.total(13));
        edges.names("Promise 4", "OUT_OF_RANGE;");
        for (int value : new int[] {1, 17, 0, -2, Integer.MIN_VALUE, Integer.MAX_VALUE}) {
            edges.refused("set(0, " + value + ")", CoinErrands.OUT_OF_RANGE, y -> y.set(0, value));
        }
        for (int value : new int[] {0, 100, -1, Integer.MIN_VALUE, Integer.MAX_VALUE}) {
            edges.refused("set(1, " + value + ")", CoinErrands.OUT_OF_RANGE, y -> y.set(1, value));
        }
    }

    private void settingsThatAreSo() {
        edges.names("Promise 4", "NONE if it has this value already.");
        edges.refusedIn(Scene.NEW, "set 0 as at first", CoinErrands.NONE, x -> x.set(0, 8));
        edges.refusedIn(Scene.NEW, "set 1 as at first", CoinErrands.NONE, x -> x.set(1, 1));
        edges.refusedIn(Scene.MIDDLE, "set 0 as it was set", CoinErrands.NONE, x -> x.set(0, 2));
        edges.refusedIn(Scene.MIDDLE, "set 1 as it was set", CoinErrands.NONE, x -> x.set(1, 3));
        edges.refusedIn(Scene.CROWD, "set 1 as it was set", CoinErrands.NONE, x -> x.set(1, 50));
    }

    private void settingsFromThenOn() {
        edges.names("Promise 4", "(It matters for coins and cuts from then on.)");
        CoinErrands x = Check.launched("2:0(3:0)");
        x.set(0, 4);
        edges.due("the coin that is minted stays", 256, x.message(0, 3));
        x.launch();
        edges.due("the next one is of the setting", 16, x.message(1, 3));

        x = Scene.made(2, 3, "2:0(3:0)");
        x.launch();
        x.pass(3);
        x.set(1, 2);
        edges.due("set itself sends nothing", 1, x.house(2, 3));
        x.pass(6);
        edges.due("the next time that the house sends it matters", 1, x.house(2, 6));

        x = Scene.made(2, 2, "2:0(3:0)");
        x.launch();
        x.pass(2);
        x.set(1, 3);
        x.pass(1);
        edges.due("one tick before the errand arrives", 1, x.house(2, 3));
    }

    private void time() {
        edges.names("Promise 14", "Returns a time that messages take.");
        edges.names("Promise 14", "Returns the time, 1 if both are the same;");
        CoinErrands x = new CoinErrands();
        x.setTime(0, 5, 9);
        for (int one = 0; one <= 5; one++) {
            for (int other = 0; other <= 5; other++) {
                int want = one == other ? 1 : one + other == 5 && one * other == 0 ? 9 : 2;
                edges.due("time " + one + " " + other, want, x.time(one, other));
            }
        }
    }

    private void housesOfTime() {
        edges.names("Promise 14", "`one`: a house");
        edges.due("the first house", 2, new CoinErrands().time(0, 3));
        edges.due("the last house", 2, new CoinErrands().time(5, 3));
        edges.names("Promise 14", "`other`: a house");
        edges.due("the first house", 2, new CoinErrands().time(3, 0));
        edges.due("the last house", 2, new CoinErrands().time(3, 5));
        edges.names("Promise 14", "UNKNOWN.");
        for (int none : NO_HOUSES) {
            edges.refused("time(" + none + ", 0)", CoinErrands.UNKNOWN, x -> x.time(none, 0));
            edges.refused("time(5, " + none + ")", CoinErrands.UNKNOWN, x -> x.time(5, none));
            edges.refused("time(" + none + ", " + none + ")", CoinErrands.UNKNOWN, x -> x.time(none, none));
        }
    }

    private void bankTime() {
        edges.names("Promise 15", "Returns the time that messages take between a house and the bank.");
        edges.names("Promise 15", "Returns the time;");
        CoinErrands x = new CoinErrands();
        x.setBankTime(5, 9);
        x.setBankTime(0, 1);
        edges.due("the shortest", 1, x.bankTime(0));
        edges.due("the first one", 3, x.bankTime(3));
        edges.due("the longest", 9, x.bankTime(5));
    }

    private void houseOfBankTime() {
        edges.names("Promise 15", "`house`: a house");
        edges.due("the first house", 3, new CoinErrands().bankTime(0));
        edges.due("the last house", 3, new CoinErrands().bankTime(5));
        edges.names("Promise 15", "UNKNOWN.");
        for (int none : NO_HOUSES) {
            edges.refused("bankTime(" + none + ")", CoinErrands.UNKNOWN, x -> x.bankTime(none));
        }
    }
}
