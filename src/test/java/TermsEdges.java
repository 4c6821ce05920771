/** The terms HOUSES, TIMES, GRAINS and ERRANDS at their edges. */
final class TermsEdges {
    private final Edges edges;

    TermsEdges(Edges edges) {
        this.edges = edges;
    }

    void look() {
        sixHouses();
        waysBetweenHouses();
        wayToItself();
        bankWays();
        timeAtFirst();
        arrivalAtTheTick();
        coins();
        leastParts();
        twiceTheLeastPart();
        twiceNinetyNine();
        allGrainsAreBack();
        workFromZeroToTwenty();
        launchOfOne();
        arrivingErrand();
        partsBehindWhatWaits();
        halvesRoundedDown();
        noErrandWaits();
        oneAskIsOut();
        grantOfTheBank();
        grantThatIsTooSmall();
        grainsComeHome();
    }

    private void sixHouses() {
        edges.names("HOUSES, TIMES", "There are 6 houses, numbered from 0, and a bank.");
        edges.refused("house(-1, 0)", CoinErrands.UNKNOWN, x -> x.house(-1, 0));
        edges.refused("house(6, 0)", CoinErrands.UNKNOWN, x -> x.house(6, 0));
        CoinErrands x = Check.launched("0:0;5:0");
        x.pass(3);
        for (int house = 0; house <= 5; house++) {
            edges.due("errands that arrived in house " + house, house % 5 == 0 ? 1 : 0, x.house(house, 5));
        }
        edges.due("house of the first message", 0, x.message(0, 1));
        edges.due("house of the last message", 5, x.message(1, 1));
        edges.due("the bank", 6, x.message(0, 2));
    }

    private void waysBetweenHouses() {
        edges.names("HOUSES, TIMES", "A message from one house to another one takes a time (1 to 9 ticks; 2 at first; the same both ways);");
        for (int ticks : new int[] {2, 1, 9}) {
            CoinErrands x = new CoinErrands();
            x.setTime(4, 1, ticks);
            Check.type(x, "1:0(4:0);4:0(1:0)");
            x.launch();
            x.pass(3 + ticks - 1);
            edges.due("not yet there after " + (ticks - 1), 1, x.house(4, 5));
            edges.due("nor the other way after " + (ticks - 1), 1, x.house(1, 5));
            x.pass(1);
            edges.due("there after " + ticks, 2, x.house(4, 5));
            edges.due("and the other way after " + ticks, 2, x.house(1, 5));
        }
    }

    private void wayToItself() {
        edges.names("HOUSES, TIMES", "a message of a house to itself takes 1 tick.");
        CoinErrands x = new CoinErrands();
        for (int other = 0; other < 6; other++) {
            x.setTime(3, other, 9);
        }
        x.setBankTime(3, 9);
        Check.type(x, "3:0(3:0)");
        x.launch();
        x.pass(9);
        edges.due("ticks until it arrives", 1, x.message(0, 4));
        edges.due("only the first one has arrived", 1, x.house(3, 5));
        x.pass(1);
        edges.due("the second one has arrived", 2, x.house(3, 5));
    }

    private void bankWays() {
        edges.names("HOUSES, TIMES", "A message between a house and the bank takes another time (1 to 9 ticks; 3 at first), either way.");
        for (int ticks : new int[] {3, 1, 9}) {
            CoinErrands x = Scene.made(2, 3, "2:0(2:0)");
            x.setBankTime(2, ticks);
            x.launch();
            edges.due("an errand", ticks, x.message(0, 4));
            x.pass(ticks);
            edges.due("an ask", ticks, x.message(0, 4));
            x.pass(ticks);
            edges.due("a grant", ticks, x.message(0, 4));
            x.pass(ticks + 1);
            edges.due("grains that come home are the last", 3, x.message(x.total(6) - 1, 0));
            edges.due("grains that come home", ticks, x.message(x.total(6) - 1, 4));
        }
    }

    private void timeAtFirst() {
        edges.names("HOUSES, TIMES", "The time is 0 at first.");
        edges.due("total 0", 0, new CoinErrands().total(0));
        edges.due("keep", 0, new CoinErrands().keep());
        edges.due("pass 1", 1, new CoinErrands().pass(1));
    }

    private void arrivalAtTheTick() {
        edges.names("HOUSES, TIMES", "A message that is sent at the time t, and takes d ticks, arrives at the time t + d.");
        CoinErrands x = new CoinErrands();
        x.pass(7);
        Check.type(x, "2:5");
        x.launch();
        for (int left = 3; left >= 1; left--) {
            edges.due("ticks left", left, x.message(0, 4));
            edges.due("not yet arrived", 0, x.house(2, 5));
            x.pass(1);
        }
        edges.due("arrived at the time", 10, x.total(0));
        edges.due("arrived", 1, x.house(2, 5));
        edges.due("no more on its way", CoinErrands.NONE, x.message(0, 4));
    }

    private void coins() {
        edges.names("GRAINS", "A coin has 2 to the power of the setting 0 grains (the setting: 2 to 16; 8 at first).");
        edges.due("at first", 256, Check.launched("1:1").message(0, 3));
        for (int power = 2; power <= 16; power++) {
            CoinErrands x = Scene.made(power, 1, "1:1");
            edges.due("setting", power, x.total(13));
            x.launch();
            edges.due("coin with " + power, 1L << power, x.message(0, 3));
            edges.due("minted with " + power, 1L << power, x.total(1));
        }
        edges.refused("set(0, 1)", CoinErrands.OUT_OF_RANGE, x -> x.set(0, 1));
        edges.refused("set(0, 17)", CoinErrands.OUT_OF_RANGE, x -> x.set(0, 17));
    }

    private void leastParts() {
        edges.names("GRAINS", "The setting 1 (1 to 99; 1 at first) is the least number of grains of a part:");
        edges.due("at first", 1, new CoinErrands().total(14));
        CoinErrands x = Scene.made(2, 1, "4:0(5:0,5:0,5:0)");
        x.launch();
        x.pass(3);
        edges.due("the last part that is sent has 1 grain", 1, x.message(1, 3));
        edges.due("the house has 1 grain", 1, x.house(4, 1));
        edges.due("and sends no part without grains", 1, x.house(4, 3));
        edges.refused("set(1, 0)", CoinErrands.OUT_OF_RANGE, y -> y.set(1, 0));
        edges.refused("set(1, 100)", CoinErrands.OUT_OF_RANGE, y -> y.set(1, 100));
    }

    private void twiceTheLeastPart() {
        edges.names("GRAINS", "a house can cut its grains if it has at least twice as many.");
        CoinErrands x = Scene.made(2, 2, "4:0(5:0)");
        x.launch();
        x.pass(3);
        edges.due("4 are cut for parts of 2", 1, x.house(4, 6));
        edges.due("into 2", 2, x.message(0, 3));

        x = Scene.made(2, 1, "4:0(5:0,5:0,5:0,5:0)");
        x.launch();
        x.pass(3);
        x.set(1, 2);
        x.pass(6);
        edges.due("1 and 4 are cut for parts of 2, but not the 3 that stay", 3, x.house(4, 6));
        edges.due("they stay", 3, x.house(4, 1));
        edges.due("and a coin is asked for", 2, x.house(4, 7));
    }

    /** A house with 128, 64 and 4 grains, and those that a part brings, all at one time. */
    private CoinErrands withGrainsOf(String part) {
        CoinErrands x = Scene.made(7, 1, "0:0(1:0)");
        x.setBankTime(2, 1);
        x.launch();
        x.set(0, 6);
        Check.retype(x, "0:0");
        x.launch();
        x.set(0, 2);
        x.launch();
        Check.retype(x, part);
        x.launch();
        x.pass(1);
        x.set(1, 99);
        x.pass(2);
        return x;
    }

    private void twiceNinetyNine() {
        edges.names("GRAINS", "a house can cut its grains if it has at least twice as many.");
        CoinErrands x = withGrainsOf("2:0(0:0)");
        edges.due("198 are cut", 1, x.house(0, 6));
        edges.due("into 99", 99, x.house(0, 1));
        x = withGrainsOf("2:0(1:0,0:0)");
        edges.due("197 are not", 0, x.house(0, 6));
        edges.due("they stay", 197, x.house(0, 1));
    }

    private void allGrainsAreBack() {
        edges.names("GRAINS", "The bank counts the grains that it has minted, and those that have come back to it.");
        CoinErrands x = Scene.made(2, 1, "4:0(5:0,4:0)");
        edges.due("none minted", 0, x.total(1));
        edges.due("none back", 0, x.total(2));
        x.launch();
        edges.due("minted with the launch", 4, x.total(1));
        x.pass(5);
        edges.due("none back before they arrive", 0, x.total(2));
        x.pass(1);
        edges.due("1 that stayed in house 4 is back", 1, x.total(2));
        x.pass(1);
        edges.due("1 of the part of house 4 is back", 2, x.total(2));
        edges.names("GRAINS", "It knows that all is quiet if both numbers are the same.");
        edges.due("0 and 0", 1, new CoinErrands().total(11));
        edges.due("4 and 2", 0, x.total(11));
        x.pass(1);
        edges.due("4 and 4", 1, x.total(11));

        x = Scene.made(2, 1, "4:0(5:0,4:0)");
        x.launch();
        x.pass(3);
        edges.due("1 grain is lost", 1, x.lose(0));
        x.pass(100);
        edges.due("3 are back", 3, x.total(2));
        edges.due("4 and 3", 0, x.total(11));
    }

    private void workFromZeroToTwenty() {
        edges.names("ERRANDS", "An errand is told by its house, its work (0 to 20 ticks), and a row of further errands, which are its parts (each one an errand of the same kind).");
        CoinErrands x = Check.launched("1:0;2:20(3:20(4:0));5:0");
        edges.due("least work", 0, x.message(0, 5));
        edges.due("most work", 20, x.message(1, 5));
        edges.due("without parts", 1, x.message(0, 6));
        edges.due("with parts of parts", 3, x.message(1, 6));
        x.pass(3);
        edges.due("no work is done at once", 0, x.house(1, 0));
        edges.due("19 of 20 are left after the first tick", 19, x.house(2, 2));
        x.pass(18);
        edges.due("busy for 20 ticks", 1, x.house(2, 0));
        x.pass(1);
        edges.due("idle then", 0, x.house(2, 0));
        edges.due("the part of the part", 1, x.house(4, 5));
    }

    private void launchOfOne() {
        edges.names("ERRANDS", "To launch an errand: the bank mints a coin, and sends the errand with this coin to its house.");
        CoinErrands x = Check.launched("5:3");
        edges.due("coins", 1, x.total(9));
        edges.due("kind", 0, x.message(0, 0));
        edges.due("from the bank", 6, x.message(0, 1));
        edges.due("to its house", 5, x.message(0, 2));
        edges.due("with this coin", 256, x.message(0, 3));
        edges.due("and no more", CoinErrands.NONE, x.message(1, 0));
    }

    private void arrivingErrand() {
        edges.names("ERRANDS", "When an errand arrives at its house: the house is busy, its grains are more by those that the errand carries, its work is more by the work of the errand,");
        CoinErrands x = Check.launched("1:5;1:7;2:9");
        edges.due("idle before", 0, x.house(1, 0));
        x.pass(3);
        edges.due("busy", 1, x.house(1, 0));
        edges.due("256 and 256", 512, x.house(1, 1));
        edges.due("5 and 7, less 1", 11, x.house(1, 2));
        edges.due("the other house has its own", 256, x.house(2, 1));
        edges.due("no other house is busy", 2, x.total(7));
    }

    private void partsBehindWhatWaits() {
        edges.names("ERRANDS", "and its parts are put behind what waits in the house, in their order. Then the house sends what it can.");
        CoinErrands x = Scene.made(2, 99, "3:0(0:1,0:2);3:0(0:3);3:0;3:0(0:4,0:5)");
        x.launch();
        x.pass(3);
        for (int place = 0; place < 5; place++) {
            edges.due("place " + place, place + 1, x.waiting(3, place, 1));
        }
        edges.due("no more", CoinErrands.NONE, x.waiting(3, 5, 1));

        x = Scene.made(2, 1, "3:0(0:1,0:2,0:3)");
        x.launch();
        x.pass(3);
        Check.retype(x, "3:0(0:4)");
        x.launch();
        x.pass(3);
        edges.due("what waited longer is sent first", 3, x.message(0, 5));
        edges.due("the new part then", 4, x.message(1, 5));
    }

    private void halvesRoundedDown() {
        edges.names("ERRANDS", "A house sends what it can in this way: as long as an errand waits, and the house can cut its grains, the first one that waits is sent to its house; it carries half of the grains of the house that sends it, rounded down, and the others stay.");
        CoinErrands x = Scene.made(2, 1, "4:9(5:9,5:9,5:9)");
        x.launch();
        x.pass(3);
        edges.due("the half of 4", 2, x.message(0, 3));
        edges.due("the half of 2", 1, x.message(1, 3));
        edges.due("1 stays", 1, x.house(4, 1));
        x.pass(6);
        edges.due("the half of 5", 2, x.message(0, 3));
        edges.due("3 stay", 3, x.house(4, 1));
        edges.due("sent", 3, x.house(4, 6));
        edges.due("none waits", 0, x.house(4, 3));
    }

    private void noErrandWaits() {
        edges.names("ERRANDS", "If an errand waits still,");
        CoinErrands x = Scene.made(2, 99, "4:9");
        x.launch();
        x.pass(3);
        edges.due("no ask without an errand that waits", 0, x.house(4, 7));
        x = Scene.made(2, 1, "4:9(5:0,5:0)");
        x.launch();
        x.pass(3);
        edges.due("no ask if the last one is sent", 0, x.house(4, 7));
        edges.due("with 1 grain left", 1, x.house(4, 1));
    }

    private void oneAskIsOut() {
        edges.names("ERRANDS", "and no ask of this house is out, the house sends an ask to the bank; it is out until a grant arrives.");
        CoinErrands x = Scene.made(2, 50, "4:0(5:0);4:0(5:0)");
        x.launch();
        x.pass(3);
        edges.due("one ask for two", 1, x.house(4, 7));
        edges.due("it is out", 1, x.house(4, 4));
        x.launch();
        x.pass(5);
        edges.due("four wait", 4, x.house(4, 3));
        edges.due("no other ask before the grant", 1, x.house(4, 7));
        edges.due("still out", 1, x.house(4, 4));
        x.pass(1);
        edges.due("the grant was too small", 2, x.house(4, 7));
    }

    private void grantOfTheBank() {
        edges.names("ERRANDS", "When an ask arrives at the bank, the bank mints a coin, and sends a grant with this coin to the house.");
        CoinErrands x = Scene.made(2, 3, "4:0(5:0)");
        x.launch();
        x.pass(5);
        edges.due("not before it arrives", 4, x.total(1));
        x.set(0, 16);
        x.pass(1);
        edges.due("a coin of the setting of then", 65540, x.total(1));
        edges.due("coins", 2, x.total(9));
        edges.due("a grant", 2, x.message(0, 0));
        edges.due("to the house", 4, x.message(0, 2));
        edges.due("with this coin", 65536, x.message(0, 3));
        edges.due("the ask is still out", 1, x.house(4, 4));
    }

    private void grantThatIsTooSmall() {
        edges.names("ERRANDS", "When a grant arrives, the grains of the house are more by the coin, and the house sends what it can.");
        CoinErrands x = Scene.made(2, 4, "4:0(5:0)");
        x.launch();
        x.pass(8);
        edges.due("before it arrives", 4, x.house(4, 1));
        x.pass(1);
        edges.due("8 are just enough", 1, x.house(4, 6));
        edges.due("none is out", 0, x.house(4, 4));

        x = Scene.made(2, 5, "4:0(5:0)");
        x.launch();
        x.pass(9);
        edges.due("8 are too few", 0, x.house(4, 6));
        edges.due("4 and 4", 8, x.house(4, 1));
        edges.due("asked anew", 2, x.house(4, 7));
        edges.due("one is out", 1, x.house(4, 4));
    }

    private void grainsComeHome() {
        edges.names("ERRANDS", "When grains arrive at the bank, they have come back.");
        CoinErrands x = Check.launched("4:0");
        x.pass(5);
        edges.due("on their way", 0, x.total(2));
        x.pass(1);
        edges.due("back", 256, x.total(2));
        edges.due("none on their way", 0, x.total(4));
    }
}
