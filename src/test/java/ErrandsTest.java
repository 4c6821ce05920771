/** Promises 5 to 8: launch, pass, lose and makeGood. */
public final class ErrandsTest {
    private static final Check CHECK = new Check();

    public static void main(String[] args) {
        launchMintsACoinForEach();
        launchWantsRoom();
        grainsAreHalved();
        sharesTooSmallAreAskedFor();
        askedForUntilItIsEnough();
        oneAskAtATime();
        busyWhileThereIsWork();
        orderOfSending();
        passWantsTicks();
        timeHasAnEnd();
        loseAnErrand();
        loseAnAsk();
        loseAnAskAndUndo();
        loseAGrant();
        makeGoodByNumbers();
        CHECK.end();
    }

    private static void launchMintsACoinForEach() {
        CoinErrands x = new CoinErrands();
        Check.type(x, "0:20(1:1,2:2);5:0");
        CHECK.due("launch", 2, x.launch());
        CHECK.due("launched", 2, x.total(8));
        CHECK.due("coins", 2, x.total(9));
        CHECK.due("minted", 512, x.total(1));
        CHECK.due("on their way", 512, x.total(4));
        CHECK.due("messages", 2, x.total(6));
        CHECK.due("the text stays", 17, x.total(16));
        CHECK.due("not quiet", 0, x.total(11));
        CHECK.due("not idle", 0, x.total(12));
        CHECK.due("first to", 0, x.message(0, 2));
        CHECK.due("second to", 5, x.message(1, 2));
        CHECK.due("one change", 1, x.total(15));
    }

    private static void launchWantsRoom() {
        CoinErrands x = new CoinErrands();
        String ten = "0:0(0:0,0:0,0:0,0:0,0:0,0:0,0:0,0:0,0:0)";
        Check.type(x, ten);
        for (int i = 0; i < 8; i++) {
            CHECK.due("launch ten errands", 1, x.launch());
        }
        CHECK.due("80 are under way", CoinErrands.FULL, x.launch());
        Check.retype(x, "6");
        CHECK.due("a fault stands first", -100, x.launch());
        Check.retype(x, "1:1");
        CHECK.due("not even one more", CoinErrands.FULL, x.launch());
        CHECK.due("nothing was minted for it", 8, x.total(9));
        x.lose(0);
        CHECK.due("a lost errand is lost with its parts", 1, x.launch());
        Check.retype(x, ten);
        CHECK.due("71 and ten", CoinErrands.FULL, x.launch());
        Check.retype(x, "1:1;1:1;1:1;1:1;1:1;1:1;1:1;1:1;1:1");
        CHECK.due("71 and nine", 9, x.launch());

        x = new CoinErrands();
        x.set(0, 2);
        Check.type(x, ten);
        for (int i = 0; i < 8; i++) {
            x.launch();
        }
        x.pass(3);
        CHECK.due("72 wait or are under way", 72, x.house(0, 3) + errandsOnTheirWay(x));
        CHECK.due("no room for ten", CoinErrands.FULL, x.launch());
        Check.retype(x, "0:0;0:0;0:0;0:0;0:0;0:0;0:0;0:0;0:0");
        CHECK.due("nor for nine", CoinErrands.FULL, x.launch());
        Check.retype(x, "0:0;0:0;0:0;0:0;0:0;0:0;0:0;0:0");
        CHECK.due("but for eight", 8, x.launch());

        x = new CoinErrands();
        x.set(0, 2);
        x.set(1, 99);
        Check.type(x, "0:0(1:0(2:0(3:0)),4:0(5:0))");
        for (int i = 0; i < 13; i++) {
            CHECK.due("launch six errands", 1, x.launch());
            x.pass(3);
        }
        CHECK.due("26 wait, with 39 within", 26, x.house(0, 3));
        CHECK.due("65 and six", 1, x.launch());
        CHECK.due("71 and six", 1, x.launch());
        CHECK.due("77 and six", CoinErrands.FULL, x.launch());
        Check.retype(x, "0:0;0:0;0:0;0:0");
        CHECK.due("77 and four", CoinErrands.FULL, x.launch());
        Check.retype(x, "0:0;0:0;0:0");
        CHECK.due("77 and three", 3, x.launch());
    }

    private static int errandsOnTheirWay(CoinErrands x) {
        int errands = 0;
        for (int rank = 0; rank < x.total(6); rank++) {
            errands += x.message(rank, 6);
        }
        return errands;
    }

    private static void grainsAreHalved() {
        CoinErrands x = Check.launched("0:5(1:1,2:1,0:1)");
        x.set(0, 2);
        x.pass(2);
        CHECK.due("not yet", 0, x.house(0, 5));
        x.pass(1);
        CHECK.due("arrived", 1, x.house(0, 5));
        CHECK.due("sent three", 3, x.house(0, 6));
        CHECK.due("a house to itself arrives first", 0, x.message(0, 2));
        CHECK.due("an eighth", 32, x.message(0, 3));
        CHECK.due("in one tick", 1, x.message(0, 4));
        CHECK.due("the half", 128, x.message(1, 3));
        CHECK.due("the quarter", 64, x.message(2, 3));
        CHECK.due("the rest", 32, x.house(0, 1));
        CHECK.due("work, one tick of it done", 4, x.house(0, 2));
        x.pass(1);
        CHECK.due("the part's work and grains are added", 64, x.house(0, 1));
        CHECK.due("4 and 1 less 1", 4, x.house(0, 2));
        x.pass(1);
        CHECK.due("house 1 is idle at once", 1, x.house(1, 8));
        CHECK.due("and sends home", 128, x.message(0, 3));
        CHECK.due("to the bank", 6, x.message(0, 2));
        x.pass(3);
        CHECK.due("grains are back", 192, x.total(2));
        CHECK.due("house 0 is idle", 1, x.house(0, 8));
        x.pass(2);
        CHECK.due("not all are back", 0, x.total(11));
        x.pass(1);
        CHECK.due("all are back", 1, x.total(11));
        CHECK.due("256 are back", 256, x.total(2));
    }

    private static void sharesTooSmallAreAskedFor() {
        CoinErrands x = new CoinErrands();
        Check.type(x, "4:0(5:0,5:1,5:2)");
        x.set(0, 2);
        x.launch();
        x.pass(3);
        CHECK.due("4 are cut into 2, then into 1", 2, x.house(4, 6));
        CHECK.due("one waits", 1, x.house(4, 3));
        CHECK.due("it is the last one", 2, x.waiting(4, 0, 1));
        CHECK.due("an ask is out", 1, x.house(4, 4));
        CHECK.due("one ask", 1, x.house(4, 7));
        CHECK.due("busy without work", 1, x.house(4, 0));
        CHECK.due("kind of the ask", 1, x.message(2, 0));
        CHECK.due("from", 4, x.message(2, 1));
        CHECK.due("to", 6, x.message(2, 2));
        CHECK.due("without grains", 0, x.message(2, 3));
        x.pass(3);
        CHECK.due("the bank mints for it", 8, x.total(1));
        CHECK.due("coins", 2, x.total(9));
        CHECK.due("launched", 1, x.total(8));
        x.pass(3);
        CHECK.due("the grant arrives", 0, x.house(4, 4));
        CHECK.due("5 are cut, 2 go", 3, x.house(4, 6));
        CHECK.due("3 went home at once", 0, x.house(4, 1));
        CHECK.due("idle", 0, x.house(4, 0));
    }

    private static void askedForUntilItIsEnough() {
        CoinErrands x = new CoinErrands();
        Check.type(x, "4:0(5:0)");
        x.set(0, 2);
        x.set(1, 7);
        x.launch();
        x.pass(9);
        CHECK.due("8 are too few for 14", 2, x.house(4, 7));
        x.pass(6);
        CHECK.due("12 are too few for 14", 3, x.house(4, 7));
        x.pass(6);
        CHECK.due("16 are enough", 1, x.house(4, 6));
        CHECK.due("three asks", 3, x.house(4, 7));

        x = new CoinErrands();
        Check.type(x, "4:0(5:0)");
        x.set(0, 2);
        x.set(1, 2);
        x.launch();
        x.pass(3);
        CHECK.due("4 are just enough for 2 and 2", 0, x.house(4, 7));
        CHECK.due("sent", 1, x.house(4, 6));
    }

    private static void oneAskAtATime() {
        CoinErrands x = new CoinErrands();
        Check.type(x, "1:0(2:0)");
        x.set(0, 2);
        x.set(1, 50);
        x.launch();
        x.pass(1);
        x.launch();
        x.pass(2);
        CHECK.due("first ask", 1, x.house(1, 7));
        x.pass(1);
        CHECK.due("two wait", 2, x.house(1, 3));
        CHECK.due("no second ask", 1, x.house(1, 7));
        x.pass(4);
        CHECK.due("no second ask before the grant", 1, x.house(1, 7));
        x.pass(1);
        CHECK.due("a second ask with the grant", 2, x.house(1, 7));

        x = new CoinErrands();
        Check.type(x, "1:0(2:0)");
        x.set(0, 2);
        x.set(1, 4);
        x.launch();
        x.pass(3);
        Check.retype(x, "1:0");
        x.launch();
        x.pass(3);
        CHECK.due("8 grains from a second errand are cut", 0, x.house(1, 3));
        CHECK.due("the ask is still out", 1, x.house(1, 4));
        CHECK.due("so the house is busy", 1, x.house(1, 0));
        x.pass(3);
        CHECK.due("with the grant it is idle", 0, x.house(1, 0));
        CHECK.due("4 and 8 go home", 12, x.message(0, 3) + x.message(1, 3));
    }

    private static void busyWhileThereIsWork() {
        CoinErrands x = Check.launched("3:2");
        x.pass(3);
        CHECK.due("busy", 1, x.house(3, 0));
        CHECK.due("work left", 1, x.house(3, 2));
        CHECK.due("grains", 256, x.house(3, 1));
        CHECK.due("busy houses", 1, x.total(7));
        x.pass(1);
        CHECK.due("idle", 0, x.house(3, 0));
        CHECK.due("grains went home", 0, x.house(3, 1));
        CHECK.due("idle once", 1, x.house(3, 8));
        CHECK.due("kind", 3, x.message(0, 0));
        CHECK.due("time", 7, x.pass(3));
        CHECK.due("quiet", 1, x.total(11));
        x.launch();
        x.pass(4);
        CHECK.due("idle twice", 2, x.house(3, 8));
    }

    /** What is sent first arrives first, also with what was sent at other times. */
    private static void orderOfSending() {
        CoinErrands x = new CoinErrands();
        Check.type(x, "0:1;1:2");
        x.setBankTime(0, 5);
        x.setBankTime(1, 5);
        x.launch();
        x.pass(2);
        Check.retype(x, "2:3;3:4;4:9");
        x.setBankTime(4, 1);
        x.launch();
        int[] order = {4, 0, 1, 2, 3};
        for (int rank = 0; rank < order.length; rank++) {
            CHECK.due("rank " + rank, order[rank], x.message(rank, 2));
        }
    }

    private static void passWantsTicks() {
        CoinErrands x = new CoinErrands();
        CHECK.due("pass 0", CoinErrands.OUT_OF_RANGE, x.pass(0));
        CHECK.due("pass -1", CoinErrands.OUT_OF_RANGE, x.pass(-1));
        CHECK.due("pass 101", CoinErrands.OUT_OF_RANGE, x.pass(101));
        CHECK.due("pass max", CoinErrands.OUT_OF_RANGE, x.pass(Integer.MAX_VALUE));
        CHECK.due("no change", 0, x.total(15));
        CHECK.due("pass 1", 1, x.pass(1));
        CHECK.due("pass 100", 101, x.pass(100));
        CHECK.due("changes", 2, x.total(15));
    }

    /** It takes more calls than are promised, but the limit of the time is named. */
    private static void timeHasAnEnd() {
        CoinErrands x = new CoinErrands();
        x.pass(50);
        for (int i = 1; i < 10000; i++) {
            x.pass(100);
        }
        CHECK.due("pass 51", CoinErrands.FULL, x.pass(51));
        CHECK.due("pass 101", CoinErrands.OUT_OF_RANGE, x.pass(101));
        CHECK.due("pass 50", 1000000, x.pass(50));
        CHECK.due("pass 1", CoinErrands.FULL, x.pass(1));
        CHECK.due("time", 1000000, x.total(0));
    }

    private static void loseAnErrand() {
        CoinErrands x = Check.launched("0:5(1:1);2:1");
        CHECK.due("lose -1", CoinErrands.OUT_OF_RANGE, x.lose(-1));
        CHECK.due("lose min", CoinErrands.OUT_OF_RANGE, x.lose(Integer.MIN_VALUE));
        CHECK.due("lose 2", CoinErrands.UNKNOWN, x.lose(2));
        CHECK.due("lose max", CoinErrands.UNKNOWN, x.lose(Integer.MAX_VALUE));
        CHECK.due("lose 0", 256, x.lose(0));
        CHECK.due("lost grains", 256, x.total(5));
        CHECK.due("lost messages", 1, x.total(10));
        CHECK.due("the other one is first now", 2, x.message(0, 2));
        x.pass(50);
        CHECK.due("it never arrives", 0, x.house(0, 5));
        CHECK.due("nor do its parts", 0, x.house(1, 5));
        CHECK.due("the bank waits", 0, x.total(11));
        CHECK.due("but all is idle", 1, x.total(12));
        CHECK.due("makeGood", 256, x.makeGood());
        CHECK.due("quiet", 1, x.total(11));
        CHECK.due("back", 512, x.total(2));
        CHECK.due("nothing is missing", 0, x.total(5));
        CHECK.due("lost messages are counted on", 1, x.total(10));
        CHECK.due("makeGood again", CoinErrands.NONE, x.makeGood());
        CHECK.due("changes", 4, x.total(15));
    }

    private static CoinErrands asking() {
        CoinErrands x = new CoinErrands();
        Check.type(x, "4:1(5:0)");
        x.set(0, 2);
        x.set(1, 3);
        x.launch();
        x.pass(3);
        return x;
    }

    private static void loseAnAsk() {
        CoinErrands x = asking();
        CHECK.due("an ask", 1, x.message(0, 0));
        CHECK.due("it carries nothing", 0, x.lose(0));
        CHECK.due("nothing on its way", 0, x.total(6));
        x.pass(100);
        CHECK.due("still out", 1, x.house(4, 4));
        CHECK.due("still busy", 1, x.house(4, 0));
        CHECK.due("still waiting", 1, x.house(4, 3));
        CHECK.due("nothing was minted", 1, x.total(9));
        CHECK.due("nothing is missing", 0, x.total(5));
        CHECK.due("makeGood", 0, x.makeGood());
        CHECK.due("it is asked anew", 2, x.house(4, 7));
        CHECK.due("out again", 1, x.house(4, 4));
        CHECK.due("an ask", 1, x.message(0, 0));
        CHECK.due("makeGood", CoinErrands.NONE, x.makeGood());
        x.pass(6);
        CHECK.due("8 are cut", 1, x.house(4, 6));

        x = asking();
        x.lose(0);
        x.set(1, 2);
        CHECK.due("makeGood", 0, x.makeGood());
        CHECK.due("now 4 can be cut", 1, x.house(4, 6));
        CHECK.due("no ask is needed", 1, x.house(4, 7));
        CHECK.due("none is out", 0, x.house(4, 4));
        CHECK.due("idle after a tick", 1, x.house(4, 0));
        CHECK.due("the part is on its way for 2 ticks", 2, x.idleIn());
        x.lose(0);
        CHECK.due("then only the house is to be waited for", 1, x.idleIn());
        x.pass(1);
        CHECK.due("idle", 0, x.house(4, 0));
    }

    private static void loseAnAskAndUndo() {
        CoinErrands x = asking();
        x.lose(0);
        x.makeGood();
        Check.retype(x, "0:0");
        x.launch();
        x.lose(1);
        CHECK.due("another message is made good", 4, x.makeGood());
        CHECK.due("the ask that was made good before is out", 2, x.house(4, 7));
        CHECK.due("and not sent again", 1, x.total(6));

        x = asking();
        x.lose(0);
        x.makeGood();
        x.undo();
        CHECK.due("the ask is lost again", 0, x.makeGood());
        CHECK.due("and asked anew", 2, x.house(4, 7));
        x.undo();
        x.undo();
        Check.retype(x, "0:0");
        x.launch();
        x.lose(1);
        CHECK.due("only the errand is lost", 4, x.makeGood());
        CHECK.due("nothing is asked anew", 1, x.house(4, 7));
    }

    private static void loseAGrant() {
        CoinErrands x = asking();
        x.pass(3);
        CHECK.due("a grant", 2, x.message(0, 0));
        CHECK.due("from the bank", 6, x.message(0, 1));
        CHECK.due("to the house", 4, x.message(0, 2));
        CHECK.due("its coin", 4, x.lose(0));
        x.pass(100);
        CHECK.due("still out", 1, x.house(4, 4));
        CHECK.due("missing", 4, x.total(5));
        CHECK.due("makeGood", 4, x.makeGood());
        CHECK.due("back", 4, x.total(2));
        CHECK.due("asks anew", 2, x.house(4, 7));
        x.pass(100);
        CHECK.due("quiet", 1, x.total(11));
        CHECK.due("minted", 12, x.total(1));
    }

    private static void makeGoodByNumbers() {
        CoinErrands x = new CoinErrands();
        Check.type(x, "5:0(0:0);1:0(0:0);3:0(0:0)");
        x.set(0, 2);
        x.set(1, 3);
        x.launch();
        x.pass(3);
        CHECK.due("in the order of the errands", 5, x.message(0, 1));
        CHECK.due("in the order of the errands", 1, x.message(1, 1));
        CHECK.due("in the order of the errands", 3, x.message(2, 1));
        x.lose(0);
        x.lose(0);
        CHECK.due("makeGood", 0, x.makeGood());
        CHECK.due("the ask that is not lost", 3, x.message(0, 1));
        CHECK.due("by the numbers", 1, x.message(1, 1));
        CHECK.due("by the numbers", 5, x.message(2, 1));
        CHECK.due("house 3 did not ask again", 1, x.house(3, 7));
        CHECK.due("house 1 did", 2, x.house(1, 7));
    }
}
