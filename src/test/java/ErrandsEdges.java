/** Promises 5 to 8 at their edges: launch, pass, lose and makeGood. */
final class ErrandsEdges {
    private static final String FIFTEEN = "0:0;1:0;2:0;3:0;4:0;5:0;0:0;1:0;2:0;3:0;4:0;5:0;0:0;1:0;2:0";

    private final Edges edges;

    ErrandsEdges(Edges edges) {
        this.edges = edges;
    }

    void look() {
        launchOneAfterTheOther();
        launchOfAFault();
        eightyErrands();
        eightyWithParts();
        eightyWaiting();
        arrivedErrandsLeaveRoom();
        faultBeforeFull();
        ticksOfPass();
        endOfTheTime();
        rankOfLose();
        loseWithoutSoMany();
        grainsOfLose();
        loseAsMessageTells();
        makeGoodOfGrains();
        makeGoodOfAsks();
        makeGoodOfGrants();
        makeGoodByNumbers();
        makeGoodOfNothing();
        makeGoodAgain();
    }

    private void launchOneAfterTheOther() {
        edges.names("Promise 5", "Launches the errands of the text, which stays, one after the other.");
        edges.names("Promise 5", "Returns how many errands are launched (their parts not counted);");
        CoinErrands x = Check.launched("3:0");
        edges.due("the text stays", 3, x.total(16));
        edges.due("the fewest", 1, x.launch());
        Check.retype(x, FIFTEEN);
        edges.due("the most", 15, x.launch());
        edges.due("in their order", 3, x.message(0, 2));
        for (int rank = 2; rank < 17; rank++) {
            edges.due("in their order", (rank - 2) % 6, x.message(rank, 2));
        }
        Check.retype(x, "3:0(1:0,2:0(4:0));5:0(0:0)");
        edges.due("parts are not counted", 2, x.launch());
        edges.due("launched so far", 19, x.total(8));
        edges.due("a coin for each", 19, x.total(9));
    }

    private void launchOfAFault() {
        edges.names("Promise 5", "-100 minus the fault of the text if it has one (this is an error);");
        edges.refusedIn(Scene.NEW, "launch of the empty text", -100, CoinErrands::launch);
        edges.refusedIn(Scene.CROWD, "launch of a fault at the end of 60", -159, CoinErrands::launch);
        Scene open = new Scene("60 characters that end too early", () -> {
            CoinErrands x = Check.launched("1:1");
            Check.retype(x, FIFTEEN);
            x.type(';');
            return x;
        });
        edges.refusedIn(open, "launch", -160, CoinErrands::launch);
        Scene faulty = new Scene("a fault at first", () -> {
            CoinErrands x = Scene.MIDDLE.make();
            Check.retype(x, "6:0");
            return x;
        });
        edges.refusedIn(faulty, "launch", -100, CoinErrands::launch);
    }

    private static CoinErrands under(int errands) {
        CoinErrands x = new CoinErrands();
        Check.type(x, FIFTEEN);
        int left = errands;
        for (; left >= 15; left -= 15) {
            x.launch();
        }
        Check.retype(x, "0:0");
        for (; left > 0; left--) {
            x.launch();
        }
        return x;
    }

    private void eightyErrands() {
        edges.names("Promise 5", "FULL if more than 80 errands would be under way or waiting then");
        CoinErrands x = under(79);
        edges.due("80", 1, x.launch());
        edges.due("80 messages", 80, x.total(6));
        edges.refusedIn(new Scene("80 errands", () -> under(80)), "81", CoinErrands.FULL, CoinErrands::launch);
        Scene many = new Scene("66 errands and a text of 15", () -> {
            CoinErrands y = under(66);
            Check.retype(y, FIFTEEN);
            return y;
        });
        edges.refusedIn(many, "81 at once", CoinErrands.FULL, CoinErrands::launch);
        x = under(65);
        Check.retype(x, FIFTEEN);
        edges.due("80 at once", 15, x.launch());
    }

    private void eightyWithParts() {
        edges.names("Promise 5", "(parts counted, also those of errands that are under way).");
        CoinErrands x = under(76);
        Check.retype(x, "1:0(2:0(3:0,4:0))");
        edges.due("76 and 4 with the parts", 1, x.launch());
        Scene parts = new Scene("77 errands and a text of 4 with the parts", () -> {
            CoinErrands y = under(77);
            Check.retype(y, "1:0(2:0(3:0,4:0))");
            return y;
        });
        edges.refusedIn(parts, "81", CoinErrands.FULL, CoinErrands::launch);

        x = under(75);
        Check.retype(x, "1:0(2:0(3:0,4:0))");
        x.launch();
        Check.retype(x, "0:0");
        edges.due("79 with the parts under way, and 1", 1, x.launch());
        edges.due("80 with the parts under way, and 1", CoinErrands.FULL, x.launch());
    }

    private void eightyWaiting() {
        edges.names("Promise 5", "FULL if more than 80 errands would be under way or waiting then (parts counted,");
        Scene waiting = new Scene("60 that wait, with what is within them, and 20 under way", () -> {
            CoinErrands x = Scene.made(2, 99, "1:0(2:0(3:0,4:0))");
            for (int i = 0; i < 20; i++) {
                x.launch();
                x.pass(1);
            }
            x.pass(2);
            Check.retype(x, "0:0;0:0;0:0;0:0;0:0");
            for (int i = 0; i < 4; i++) {
                x.launch();
            }
            Check.retype(x, "0:0");
            return x;
        });
        CoinErrands x = waiting.make();
        edges.due("20 wait", 20, x.house(1, 3));
        edges.due("each with 3", 3, x.waiting(1, 0, 3));
        edges.refusedIn(waiting, "81", CoinErrands.FULL, CoinErrands::launch);
        x.lose(x.total(6) - 1);
        edges.due("79 without a lost one, and 1", 1, x.launch());
        edges.due("80 again, and 1", CoinErrands.FULL, x.launch());
    }

    private void arrivedErrandsLeaveRoom() {
        edges.names("Promise 5", "would be under way or waiting then");
        CoinErrands x = under(80);
        edges.due("80 under way", CoinErrands.FULL, x.launch());
        x.pass(3);
        Check.retype(x, FIFTEEN);
        for (int i = 0; i < 5; i++) {
            edges.due("those that have arrived are not counted", 15, x.launch());
        }
        edges.due("75 and 15", CoinErrands.FULL, x.launch());
    }

    private void faultBeforeFull() {
        edges.names("Promise 5", "if it has one (this is an error); FULL");
        CoinErrands x = under(80);
        x.type(';');
        edges.due("a fault, and no room", -104, x.launch());
        x.clearText();
        edges.due("an empty text, and no room", -100, x.launch());
    }

    private void ticksOfPass() {
        edges.names("Promise 6", "Lets ticks pass.");
        edges.names("Promise 6", "`ticks`: 1 to 100");
        edges.names("Promise 6", "Returns the time then;");
        CoinErrands x = Check.launched("1:96");
        Check.retype(x, "1:0");
        x.launch();
        edges.due("the fewest", 1, x.pass(1));
        edges.due("the most", 101, x.pass(100));
        edges.due("time", 101, x.total(0));
        edges.names("Promise 6", "OUT_OF_RANGE;");
        for (int ticks : new int[] {0, 101, -1, -100, Integer.MIN_VALUE, Integer.MAX_VALUE}) {
            edges.refused("pass(" + ticks + ")", CoinErrands.OUT_OF_RANGE, y -> y.pass(ticks));
        }
    }

    /** The one edge that 512 calls can't reach: an object of this program answers on all the same. */
    private void endOfTheTime() {
        edges.names("Promise 6", "FULL if the time would be greater than 1000000.");
        CoinErrands x = new CoinErrands();
        for (int i = 1; i < 10000; i++) {
            x.pass(100);
        }
        x.pass(99);
        Check.type(x, "0:0");
        x.launch();
        edges.due("2 ticks too many by 1", CoinErrands.FULL, x.pass(2));
        edges.due("100 ticks", CoinErrands.FULL, x.pass(100));
        edges.due("101 ticks are out of range first", CoinErrands.OUT_OF_RANGE, x.pass(101));
        edges.due("nothing has changed", 999999, x.total(0));
        edges.due("nothing has come nearer", 3, x.message(0, 4));
        edges.due("forecasts go on", 6, x.quietIn());
        edges.due("the last tick", 1000000, x.pass(1));
        edges.due("no more", CoinErrands.FULL, x.pass(1));
        edges.due("undo", 3, x.undo());
        edges.due("again", 1000000, x.pass(1));
    }

    private void rankOfLose() {
        edges.names("Promise 7", "OUT_OF_RANGE if rank is negative;");
        for (int rank : new int[] {-1, -2, Integer.MIN_VALUE}) {
            edges.refused("lose(" + rank + ")", CoinErrands.OUT_OF_RANGE, x -> x.lose(rank));
        }
    }

    private void loseWithoutSoMany() {
        edges.names("Promise 7", "UNKNOWN if there are not so many.");
        edges.refusedIn(Scene.NEW, "lose(0) of none", CoinErrands.UNKNOWN, x -> x.lose(0));
        edges.refused("lose one behind the last", CoinErrands.UNKNOWN, x -> x.lose(x.total(6)));
        edges.refused("lose the greatest number", CoinErrands.UNKNOWN, x -> x.lose(Integer.MAX_VALUE));
        CoinErrands x = Check.launched("0:0;1:0");
        edges.due("the last of two", 256, x.lose(1));
        edges.due("the second of one", CoinErrands.UNKNOWN, x.lose(1));
        edges.due("the last of one", 256, x.lose(0));
        edges.due("the first of none", CoinErrands.UNKNOWN, x.lose(0));
    }

    private void grainsOfLose() {
        edges.names("Promise 7", "Loses a message.");
        edges.names("Promise 7", "Returns the grains that it carries;");
        CoinErrands x = Scene.made(16, 1, "2:1");
        x.launch();
        edges.due("the greatest coin", 65536, x.lose(0));
        edges.due("one is lost", 1, x.total(10));
        edges.due("its grains", 65536, x.total(5));
        x = Scene.made(2, 3, "2:1(2:1)");
        x.launch();
        x.pass(3);
        edges.due("an ask carries none", 0, x.lose(0));
        edges.due("but it is lost", 1, x.total(10));
        edges.due("nothing is on its way", 0, x.total(6));
    }

    private void loseAsMessageTells() {
        edges.names("Promise 7", "`rank`: 0 for the message that would arrive first, and so on, as message() tells them");
        CoinErrands all = Scene.MIDDLE.make();
        int most = all.total(6);
        for (int rank = 0; rank < most; rank++) {
            CoinErrands x = Scene.MIDDLE.make();
            edges.due("grains of " + rank, all.message(rank, 3), x.lose(rank));
            for (int other = 0; other < most - 1; other++) {
                for (int what = 0; what <= 6; what++) {
                    edges.due("others of " + rank, all.message(other < rank ? other : other + 1, what), x.message(other, what));
                }
            }
            edges.due("one less", most - 1, x.total(6));
        }
    }

    private void makeGoodOfGrains() {
        edges.names("Promise 8", "Makes good what is missing: the bank counts all grains that are lost as come back,");
        edges.names("Promise 8", "Returns how many grains are made good;");
        CoinErrands x = Check.launched("0:0;1:0;2:0");
        x.lose(0);
        x.lose(0);
        edges.due("two coins", 512, x.makeGood());
        edges.due("back", 512, x.total(2));
        edges.due("lost and not made good", 0, x.total(5));
        edges.due("lost so far", 2, x.total(10));
        edges.due("the bank waits for the third", 0, x.total(11));
        x.lose(0);
        edges.due("the third", 256, x.makeGood());
        edges.due("all are back", 1, x.total(11));
    }

    private static CoinErrands asking() {
        CoinErrands x = Scene.made(2, 3, "5:0(0:0);2:9;1:0(0:0)");
        x.launch();
        x.pass(3);
        return x;
    }

    private void makeGoodOfAsks() {
        edges.names("Promise 8", "and asks that were lost,");
        CoinErrands x = asking();
        x.lose(0);
        edges.due("no grains", 0, x.makeGood());
        edges.due("an ask is out that is sent anew", 1, x.house(5, 4));
        edges.due("the second one of the house", 2, x.house(5, 7));
        edges.due("the ask that was not lost is not sent anew", 1, x.house(1, 7));
        edges.due("a house that did not ask does not", 0, x.house(2, 7));
        x = asking();
        x.lose(0);
        x.set(1, 2);
        edges.due("no grains", 0, x.makeGood());
        edges.due("what can be sent is sent without an ask", 0, x.house(5, 4));
        edges.due("sent", 1, x.house(5, 6));
        edges.due("asks", 1, x.house(5, 7));
    }

    private void makeGoodOfGrants() {
        edges.names("Promise 8", "or whose grants were lost, are no more out;");
        CoinErrands x = asking();
        x.pass(3);
        edges.due("kind", 2, x.message(0, 0));
        x.lose(0);
        edges.due("its coin", 4, x.makeGood());
        edges.due("the second ask", 2, x.house(5, 7));
        edges.due("no other one", 1, x.house(1, 7));
        x.pass(6);
        edges.due("sent with the second grant", 1, x.house(5, 6));

        x = Scene.made(2, 3, "5:1(0:0)");
        x.launch();
        x.pass(3);
        x.lose(0);
        Check.retype(x, "5:0");
        x.launch();
        x.pass(100);
        edges.due("nothing waits any more", 0, x.house(5, 3));
        edges.due("nothing is on its way", 0, x.total(6));
        edges.due("busy, as an ask is out", 1, x.house(5, 0));
        x.makeGood();
        edges.due("it is no more out", 0, x.house(5, 4));
        edges.due("and none is sent", 1, x.house(5, 7));
        edges.due("busy until a tick is done", 1, x.house(5, 0));
        edges.due("idle then", 1, x.idleIn());
        x.pass(1);
        edges.due("idle", 0, x.house(5, 0));
    }

    private void makeGoodByNumbers() {
        edges.names("Promise 8", "each house with such an ask sends what it can, by the numbers of the houses.");
        CoinErrands x = asking();
        edges.due("first from house 5", 5, x.message(0, 1));
        x.lose(0);
        x.lose(0);
        x.makeGood();
        edges.due("now first from house 1", 1, x.message(0, 1));
        edges.due("then from house 5", 5, x.message(1, 1));
    }

    private void makeGoodOfNothing() {
        edges.names("Promise 8", "NONE if no message is lost");
        edges.refusedIn(Scene.NEW, "makeGood", CoinErrands.NONE, CoinErrands::makeGood);
        edges.refusedIn(Scene.CROWD, "makeGood", CoinErrands.NONE, CoinErrands::makeGood);
        edges.refusedIn(new Scene("asks on their way", ErrandsEdges::asking), "makeGood", CoinErrands.NONE, CoinErrands::makeGood);
    }

    private static int firstAsk(CoinErrands x) {
        int rank = 0;
        while (rank < x.total(6) && x.message(rank, 0) != 1) {
            rank++;
        }
        return rank;
    }

    private void makeGoodAgain() {
        edges.names("Promise 8", "since it was made good last.");
        Scene good = new Scene("what was made good", () -> {
            CoinErrands x = Scene.MIDDLE.make();
            x.makeGood();
            return x;
        });
        edges.refusedIn(good, "makeGood", CoinErrands.NONE, CoinErrands::makeGood);
        CoinErrands x = good.make();
        edges.due("an ask is sent anew", 0, x.message(firstAsk(x), 1));
        edges.due("an ask", 0, x.lose(firstAsk(x)));
        edges.due("only an ask is lost since", 0, x.makeGood());
        edges.due("no more", CoinErrands.NONE, x.makeGood());
        x.undo();
        edges.due("undone", 0, x.makeGood());
        x.undo();
        x.undo();
        edges.due("nor lost", CoinErrands.NONE, x.makeGood());
        x.undo();
        edges.due("not made good", 4, x.makeGood());
        int asks = x.house(0, 7);
        x.lose(x.total(6) - 1);
        edges.due("only grains are lost since", 4, x.makeGood());
        edges.due("what was made good before is not asked for again", asks, x.house(0, 7));
    }
}
