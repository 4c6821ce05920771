/** Promises 20, 21 and 23 at their edges: quietIn, idleIn and leastCoin. */
final class ForecastsEdges {
    private final Edges edges;

    ForecastsEdges(Edges edges) {
        this.edges = edges;
    }

    void look() {
        runOfAllCalls();
        quietInTicks();
        quietWithAllHousesAtWork();
        quietNow();
        quietInFiveHundred();
        neverQuiet();
        idleInTicks();
        idleNow();
        idleInFiveHundred();
        askingForFiveHundred();
        neverIdle();
        nothingChanges();
        leastCoinOfAsks();
        leastCoinInIdleHouses();
        leastCoinAfterOthers();
        leastCoinWithTimesAndParts();
        leastCoinUntilIdle();
        leastCoinFromTwoToSixteen();
        leastCoinOfAFault();
        leastCoinOfNone();
    }

    private void runOfAllCalls() {
        edges.names("What it is", "An object is used for at most 512 calls after it has been made;");
        CoinErrands x = new CoinErrands();
        for (int call = 1; call <= 512; call++) {
            edges.due("call " + call, 100 * call, x.pass(100));
        }
        x = new CoinErrands();
        Check.type(x, "0:0(0:0)");
        int launched = 0;
        for (int call = 9; call < 512; call++) {
            launched += Math.max(0, call % 2 == 0 ? x.launch() : Math.min(0, x.pass(9)));
        }
        edges.due("the last call", launched, x.total(8));
    }

    private void quietInTicks() {
        edges.names("Promise 20", "Tells after how many ticks the bank knows that all is quiet.");
        CoinErrands x = Check.launched("3:2(4:3)");
        int quiet = x.quietIn();
        edges.due("3 to arrive, 2 for the part, 3 of work from then on, 3 to come home", 10, quiet);
        for (int left = quiet; left > 0; left--) {
            edges.due("left", left, x.quietIn());
            edges.due("not yet", 0, x.total(11));
            x.pass(1);
        }
        edges.due("then", 1, x.total(11));
    }

    private void quietWithAllHousesAtWork() {
        edges.names("Promise 20", "Tells after how many ticks the bank knows that all is quiet.");
        CoinErrands x = Check.launched("0:9;1:9;2:9;3:9;4:9;5:9");
        x.pass(3);
        edges.due("all are busy", 6, x.total(7));
        edges.due("nothing is on its way", 0, x.total(6));
        edges.due("8 of work and 3 to come home", 11, x.quietIn());
        edges.due("8 of work", 8, x.idleIn());
    }

    private void quietNow() {
        edges.names("Promise 20", "Returns how many, 0 if it knows it now;");
        CoinErrands x = new CoinErrands();
        edges.due("at first", 0, x.quietIn());
        x.setBankTime(1, 1);
        Check.type(x, "1:0");
        x.launch();
        edges.due("the fewest with an errand", 2, x.quietIn());
        x.pass(1);
        edges.due("the fewest", 1, x.quietIn());
        x.pass(1);
        edges.due("now", 0, x.quietIn());
        x.launch();
        x.lose(0);
        x.makeGood();
        edges.due("now that it is made good", 0, x.quietIn());
    }

    /** So many ticks of work in house 0 that arrive together after 3 ticks. */
    private static CoinErrands working(int ticks) {
        CoinErrands x = new CoinErrands();
        Check.type(x, "0:20");
        for (int left = ticks; left >= 20; left -= 20) {
            x.launch();
        }
        if (ticks % 20 > 0) {
            Check.retype(x, "0:" + ticks % 20);
            x.launch();
        }
        return x;
    }

    private void quietInFiveHundred() {
        edges.names("Promise 20", "NONE if it takes more than 500.");
        edges.due("499", 499, working(494).quietIn());
        edges.due("500", 500, working(495).quietIn());
        Scene more = new Scene("501 ticks", () -> working(496));
        edges.refusedIn(more, "quietIn", CoinErrands.NONE, CoinErrands::quietIn);
        CoinErrands x = more.make();
        x.pass(1);
        edges.due("a tick later", 500, x.quietIn());
        x.pass(100);
        edges.due("later", 400, x.quietIn());
        edges.due("far more", CoinErrands.NONE, working(1600).quietIn());
    }

    private void neverQuiet() {
        edges.names("Promise 20", "NONE if it takes more than 500.");
        Scene lost = new Scene("grains that are lost", () -> {
            CoinErrands x = Check.launched("3:2;4:1");
            x.lose(0);
            return x;
        });
        edges.refusedIn(lost, "quietIn", CoinErrands.NONE, CoinErrands::quietIn);
        CoinErrands x = lost.make();
        x.makeGood();
        edges.due("made good", 6, x.quietIn());
    }

    private void idleInTicks() {
        edges.names("Promise 21", "Tells after how many ticks no house is busy, and no errand, ask or grant is on its way.");
        CoinErrands x = Scene.made(2, 3, "3:2(4:3)");
        x.launch();
        int idle = x.idleIn();
        edges.due("3 to arrive, 6 for the coin, 2 for the part, 3 of work from then on", 13, idle);
        for (int left = idle; left > 0; left--) {
            edges.due("left", left, x.idleIn());
            edges.due("not yet", 0, x.total(12));
            x.pass(1);
        }
        edges.due("then", 1, x.total(12));
        edges.due("grains are on their way", 1, x.total(6));
    }

    private void idleNow() {
        edges.names("Promise 21", "Returns how many, 0 if it is so now;");
        CoinErrands x = new CoinErrands();
        edges.due("at first", 0, x.idleIn());
        x.setBankTime(1, 1);
        Check.type(x, "1:0");
        x.launch();
        edges.due("the fewest", 1, x.idleIn());
        x.pass(1);
        edges.due("now, with grains on their way", 0, x.idleIn());
        edges.due("which the bank does not know", 1, x.quietIn());
        x.launch();
        x.lose(x.total(6) - 1);
        edges.due("now, with a lost errand", 0, x.idleIn());
    }

    private void idleInFiveHundred() {
        edges.names("Promise 21", "NONE if it takes more than 500.");
        edges.due("499", 499, working(497).idleIn());
        edges.due("500", 500, working(498).idleIn());
        Scene more = new Scene("501 ticks", () -> working(499));
        edges.refusedIn(more, "idleIn", CoinErrands.NONE, CoinErrands::idleIn);
        CoinErrands x = more.make();
        x.pass(1);
        edges.due("a tick later", 500, x.idleIn());
        edges.due("far more", CoinErrands.NONE, working(1600).idleIn());
    }

    /** 198 grains are asked for in coins of 4, 18 ticks each, and the part takes a tick more. */
    private void askingForFiveHundred() {
        edges.names("Promise 21", "NONE if it takes more than 500.");
        CoinErrands x = Scene.made(2, 99, "0:0(0:0)");
        x.setBankTime(0, 9);
        x.launch();
        edges.due("9, 49 times 18, and 1", CoinErrands.NONE, x.idleIn());
        for (int i = 0; i < 3; i++) {
            x.pass(100);
        }
        x.pass(91);
        edges.due("501", CoinErrands.NONE, x.idleIn());
        x.pass(1);
        edges.due("500", 500, x.idleIn());
        edges.due("the bank knows it later", CoinErrands.NONE, x.quietIn());
        x.pass(9);
        edges.due("9 more to come home", 500, x.quietIn());
    }

    private void neverIdle() {
        edges.names("Promise 21", "NONE if it takes more than 500.");
        Scene lost = new Scene("an ask that is lost", () -> {
            CoinErrands x = Scene.made(2, 3, "4:1(5:0)");
            x.launch();
            x.pass(3);
            x.lose(0);
            return x;
        });
        edges.refusedIn(lost, "idleIn", CoinErrands.NONE, CoinErrands::idleIn);
        edges.refusedIn(lost, "quietIn", CoinErrands.NONE, CoinErrands::quietIn);
        CoinErrands x = lost.make();
        x.makeGood();
        edges.due("asked anew: 6 for the coin, 2 for the part", 8, x.idleIn());
    }

    /** Answers that are no errors change nothing either. */
    private void nothingChanges() {
        edges.names("Promise 20", "Tells after how many ticks");
        edges.refusedIn(Scene.NEW, "quietIn", 0, CoinErrands::quietIn);
        edges.refusedIn(Scene.CROWD, "quietIn", Scene.CROWD.make().quietIn(), CoinErrands::quietIn);
        edges.names("Promise 21", "Tells after how many ticks");
        edges.refusedIn(Scene.NEW, "idleIn", 0, CoinErrands::idleIn);
        edges.refusedIn(Scene.CROWD, "idleIn", Scene.CROWD.make().idleIn(), CoinErrands::idleIn);
        edges.names("Promise 23", "Tells with which least setting 0");
        edges.refusedIn(Scene.MIDDLE, "leastCoin", Scene.MIDDLE.make().leastCoin(), CoinErrands::leastCoin);
    }

    private void least(int want, int leastPart, String text) {
        CoinErrands x = Scene.made(8, leastPart, text);
        edges.due("leastCoin of '" + text + "' with parts of " + leastPart, want, x.leastCoin());
    }

    private void leastCoinOfAsks() {
        edges.names("Promise 23", "Tells with which least setting 0 no house would send an ask,");
        least(2, 1, "0:0(1:0,1:0)");
        least(3, 1, "0:0(1:0,1:0,1:0)");
        least(2, 2, "0:0(1:0)");
        least(3, 3, "0:0(1:0)");
        least(3, 4, "0:0(1:0)");
        least(4, 5, "0:0(1:0)");
        least(3, 1, "0:0(1:0(2:0(3:0)))");
        for (String text : new String[] {"0:3(1:2(2:1,3:1),4:1,5:1);1:0(1:1)", "0:0(0:0,0:0,0:0,0:0(1:1(2:2)))", "5:1;5:1(4:1,4:1)"}) {
            for (int leastPart : new int[] {1, 2, 7, 99}) {
                leastAsTried(text, leastPart);
            }
        }
    }

    private void leastAsTried(String text, int leastPart) {
        int want = CoinErrands.NONE;
        for (int power = 16; power >= 2; power--) {
            CoinErrands x = Scene.made(power, leastPart, text);
            x.launch();
            int asks = 0;
            for (int ticks = 0; ticks < 500; ticks += 100) {
                x.pass(100);
            }
            for (int house = 0; house <= 5; house++) {
                asks += x.house(house, 7);
            }
            want = asks == 0 ? power : want;
        }
        least(want, leastPart, text);
    }

    private void leastCoinInIdleHouses() {
        edges.names("Promise 23", "if the errands of the text were launched in idle houses with nothing on its way");
        CoinErrands x = Scene.made(2, 1, "0:0(1:0,1:0,1:0)");
        edges.due("at first", 3, x.leastCoin());
        x.launch();
        edges.due("with an errand on its way", 3, x.leastCoin());
        x.pass(3);
        edges.due("with a house that asks", 3, x.leastCoin());
        x.lose(2);
        edges.due("with a lost ask", 3, x.leastCoin());
        x.set(0, 16);
        x.launch();
        x.pass(3);
        edges.due("with grains in the house", 3, x.leastCoin());
        CoinErrands crowd = Scene.CROWD.make();
        Check.retype(crowd, "0:0(1:0)");
        edges.due("with 80 errands under way and waiting", 7, crowd.leastCoin());
    }

    /** What another forecast, or a lesser coin, has left behind in house 0 would serve the parts there. */
    private void leastCoinAfterOthers() {
        edges.names("Promise 23", "launched in idle houses with nothing on its way");
        CoinErrands x = working(1600);
        x.setBankTime(3, 1);
        x.setTime(0, 3, 1);
        Check.retype(x, "3:0(0:0);0:0(1:0,1:0,1:0)");
        edges.due("leastCoin", 3, x.leastCoin());
        edges.due("house 0 would work on after 500 ticks", CoinErrands.NONE, x.quietIn());
        edges.due("leastCoin after quietIn", 3, x.leastCoin());
        edges.due("house 0 would work on after 500 ticks", CoinErrands.NONE, x.idleIn());
        edges.due("leastCoin after idleIn", 3, x.leastCoin());

        x = Scene.made(8, 1, "0:0(1:0,1:0,1:0);2:0(0:0(1:0,1:0,1:0))");
        x.setBankTime(2, 9);
        edges.due("an ask with 4 grains is of no use to those with 8", 4, x.leastCoin());
        edges.due("again", 4, x.leastCoin());

        x = Scene.made(8, 1, "0:1;3:0(0:0(1:0,1:0,1:0))");
        x.setBankTime(3, 2);
        edges.due("the first coin goes home a tick before the part arrives", 4, x.leastCoin());
        x.setBankTime(3, 1);
        edges.due("the first coin arrives with the part, and serves it", 2, x.leastCoin());
    }

    private void leastCoinWithTimesAndParts() {
        edges.names("Promise 23", "(with the times and the setting 1 as they are),");
        CoinErrands x = Scene.made(8, 1, "3:2(0:10);0:0(1:0,1:0,1:0)");
        edges.due("times at first", 3, x.leastCoin());
        x.setBankTime(3, 1);
        edges.due("the part arrives with the errand, but is sent later", 3, x.leastCoin());
        x.setBankTime(0, 4);
        edges.due("the part's grains are there in time", 2, x.leastCoin());
        x.setTime(0, 3, 9);
        edges.due("a longer way", 3, x.leastCoin());
        x.setTime(0, 3, 1);
        x.set(1, 2);
        edges.due("greater parts", 4, x.leastCoin());
        x.undo();
        edges.due("undone", 2, x.leastCoin());
    }

    /** The second bound can't be told from none: with 15 errands all is idle, or a house asks, before 500 ticks. */
    private void leastCoinUntilIdle() {
        edges.names("Promise 23", "until all is idle or 500 ticks have passed.");
        String chain = "0:20(0:20(0:20(0:20(0:20(0:20(0:20(0:20(0:20(0:20)))))))))";
        least(2, 1, chain);
        CoinErrands x = Scene.made(10, 1, chain);
        x.launch();
        edges.due("the house works long", 202, x.idleIn());
        Check.retype(x, "0:20;0:20;0:20;0:20;0:20;0:20;0:20;0:20;0:20;0:20;0:20(1:0)");
        edges.due("as long as can be", 2, x.leastCoin());
    }

    private void leastCoinFromTwoToSixteen() {
        edges.names("Promise 23", "Returns the setting, 2 to 16;");
        least(2, 1, "0:0");
        least(2, 99, "0:0");
        least(2, 1, "0:20;1:20;2:20;3:20;4:20;5:20;0:20;1:20;2:20;3:20;4:20;5:20");
        least(15, 99, "0:0(0:0,0:0,0:0,0:0,0:0,0:0,0:0,0:0)");
        least(16, 99, "0:0(0:0,0:0,0:0,0:0,0:0,0:0,0:0,0:0,0:0)");
        least(16, 8, "0:0(0:0,0:0,0:0,0:0,0:0,0:0,0:0,0:0,0:0,0:0,0:0,0:0,0:0)");
    }

    private void leastCoinOfAFault() {
        edges.names("Promise 23", "-100 minus the fault of the text if it has one (this is an error);");
        edges.refusedIn(Scene.NEW, "leastCoin of the empty text", -100, CoinErrands::leastCoin);
        edges.refusedIn(Scene.CROWD, "leastCoin of a fault at the end of 60", -159, CoinErrands::leastCoin);
    }

    private void leastCoinOfNone() {
        edges.names("Promise 23", "NONE if a house would send an ask with each.");
        least(CoinErrands.NONE, 99, "0:0(0:0,0:0,0:0,0:0,0:0,0:0,0:0,0:0,0:0,0:0)");
        least(CoinErrands.NONE, 9, "0:0(0:0,0:0,0:0,0:0,0:0,0:0,0:0,0:0,0:0,0:0,0:0,0:0,0:0)");
        Scene each = new Scene("parts that are too small with each coin", () -> {
            CoinErrands x = Scene.made(16, 99, "0:9");
            x.launch();
            x.pass(3);
            x.keep();
            Check.retype(x, "0:0(0:0,0:0,0:0,0:0,0:0,0:0,0:0,0:0,0:0,0:0)");
            return x;
        });
        edges.refusedIn(each, "leastCoin", CoinErrands.NONE, CoinErrands::leastCoin);
    }
}
