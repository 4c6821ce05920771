/** Promises 16 to 19 at their edges: house, waiting, message and total. */
final class ViewsEdges {
    private static final int[] NO_HOUSES = {-1, 6, Integer.MIN_VALUE, Integer.MAX_VALUE};

    private final Edges edges;

    ViewsEdges(Edges edges) {
        this.edges = edges;
    }

    void look() {
        houseOfHouse();
        whatOfHouse();
        noWhatOfHouse();
        houseOfWaiting();
        placeOfWaiting();
        whatOfWaiting();
        rangesOfWaiting();
        waitingOfNotSoMany();
        ranksInOrder();
        whatOfMessage();
        rangesOfMessage();
        messagesOfNotSoMany();
        whatOfTotal();
        totalsOfQuietAndIdle();
        noWhatOfTotal();
    }

    private void houseOfHouse() {
        edges.names("Promise 16", "Returns something of a house.");
        edges.names("Promise 16", "`house`: a house");
        CoinErrands x = Check.launched("0:3;5:4");
        x.pass(3);
        edges.due("the first house", 2, x.house(0, 2));
        edges.due("the last house", 3, x.house(5, 2));
        edges.names("Promise 16", "Returns the number; UNKNOWN;");
        for (int none : NO_HOUSES) {
            edges.refused("house(" + none + ", 0)", CoinErrands.UNKNOWN, y -> y.house(none, 0));
            edges.refused("house(" + none + ", 8)", CoinErrands.UNKNOWN, y -> y.house(none, 8));
            edges.refused("house(" + none + ", 9)", CoinErrands.UNKNOWN, y -> y.house(none, 9));
            edges.refused("house(" + none + ", -1)", CoinErrands.UNKNOWN, y -> y.house(none, -1));
        }
    }

    private void isHouse(String when, CoinErrands x, int house, int... want) {
        for (int what = 0; what <= 8; what++) {
            edges.due("house " + house + " " + when + ", what " + what, want[what], x.house(house, what));
        }
    }

    private void whatOfHouse() {
        edges.names("Promise 16", "`what`: 0 for whether it is busy (1, otherwise 0), 1 for its grains, 2 for its work, 3 for the errands that wait in it (their parts not counted), 4 for whether an ask of it is out (1, otherwise 0), 5 for errands that have arrived so far, 6 for errands that it has sent so far, 7 for asks that it has sent so far, 8 for how often it became idle so far");
        CoinErrands x = Scene.made(2, 1, "2:3(3:1,3:1,3:1(3:1,3:1),3:1)");
        isHouse("at first", x, 2, 0, 0, 0, 0, 0, 0, 0, 0, 0);
        x.launch();
        x.pass(3);
        isHouse("with 1 grain", x, 2, 1, 1, 2, 2, 1, 1, 2, 1, 0);
        isHouse("that is not told", x, 3, 0, 0, 0, 0, 0, 0, 0, 0, 0);
        x.pass(2);
        isHouse("with two parts at once", x, 3, 1, 3, 1, 0, 0, 2, 0, 0, 0);
        x.pass(1);
        isHouse("that is idle", x, 3, 0, 0, 0, 0, 0, 2, 0, 0, 1);
        x.pass(3);
        isHouse("without work, idle with the grant", x, 2, 0, 0, 0, 0, 0, 1, 4, 1, 1);
        x.pass(2);
        isHouse("busy for the second time", x, 3, 1, 1, 1, 0, 1, 4, 2, 1, 1);
    }

    private void noWhatOfHouse() {
        edges.names("Promise 16", "OUT_OF_RANGE.");
        for (int what : new int[] {-1, 9, Integer.MIN_VALUE, Integer.MAX_VALUE}) {
            edges.refused("house(0, " + what + ")", CoinErrands.OUT_OF_RANGE, x -> x.house(0, what));
            edges.refused("house(5, " + what + ")", CoinErrands.OUT_OF_RANGE, x -> x.house(5, what));
        }
    }

    private static CoinErrands waits() {
        CoinErrands x = Scene.made(2, 99, "0:0(1:20(2:1(3:1),4:1),5:0);5:0(3:7)");
        x.launch();
        x.pass(3);
        return x;
    }

    private void houseOfWaiting() {
        edges.names("Promise 17", "Returns something of an errand that waits.");
        edges.names("Promise 17", "`house`: a house");
        edges.due("the first house", 1, waits().waiting(0, 0, 0));
        edges.due("the last house", 3, waits().waiting(5, 0, 0));
        edges.names("Promise 17", "Returns the number; UNKNOWN;");
        for (int none : NO_HOUSES) {
            edges.refused("waiting(" + none + ", 0, 0)", CoinErrands.UNKNOWN, x -> x.waiting(none, 0, 0));
            edges.refused("waiting(" + none + ", -1, 0)", CoinErrands.UNKNOWN, x -> x.waiting(none, -1, 0));
            edges.refused("waiting(" + none + ", 0, 4)", CoinErrands.UNKNOWN, x -> x.waiting(none, 0, 4));
        }
    }

    private void placeOfWaiting() {
        edges.names("Promise 17", "`place`: 0 for the first one that waits, and so on");
        CoinErrands x = waits();
        edges.due("the first one", 20, x.waiting(0, 0, 1));
        edges.due("the last one", 0, x.waiting(0, 1, 1));
        edges.due("no more", CoinErrands.NONE, x.waiting(0, 2, 1));
        x.set(0, 16);
        x.pass(6);
        edges.due("all are sent", CoinErrands.NONE, x.waiting(0, 0, 0));

        x = Scene.made(2, 1, "0:0(1:1,1:2,1:3,1:4)");
        x.launch();
        x.pass(3);
        edges.due("the first that still waits", 3, x.waiting(0, 0, 1));
        edges.due("the one behind it", 4, x.waiting(0, 1, 1));
        edges.due("none behind it", CoinErrands.NONE, x.waiting(0, 2, 1));
    }

    private void whatOfWaiting() {
        edges.names("Promise 17", "`what`: 0 for its house, 1 for its work, 2 for its parts (parts of parts not counted), 3 for it and all that is within it");
        CoinErrands x = waits();
        int[][] want = {{1, 20, 2, 4}, {5, 0, 0, 1}};
        for (int place = 0; place < 2; place++) {
            for (int what = 0; what <= 3; what++) {
                edges.due("place " + place + ", what " + what, want[place][what], x.waiting(0, place, what));
            }
        }
    }

    private void rangesOfWaiting() {
        edges.names("Promise 17", "OUT_OF_RANGE (what, or place is negative);");
        Scene waiting = new Scene("errands that wait", ViewsEdges::waits);
        for (int no : new int[] {-1, 4, Integer.MIN_VALUE, Integer.MAX_VALUE}) {
            edges.refusedIn(waiting, "waiting(0, 0, " + no + ")", CoinErrands.OUT_OF_RANGE, x -> x.waiting(0, 0, no));
            edges.refused("waiting(3, 0, " + no + ")", CoinErrands.OUT_OF_RANGE, x -> x.waiting(3, 0, no));
        }
        for (int place : new int[] {-1, -2, Integer.MIN_VALUE}) {
            edges.refusedIn(waiting, "waiting(0, " + place + ", 0)", CoinErrands.OUT_OF_RANGE, x -> x.waiting(0, place, 0));
            edges.refused("waiting(3, " + place + ", 3)", CoinErrands.OUT_OF_RANGE, x -> x.waiting(3, place, 3));
        }
    }

    private void waitingOfNotSoMany() {
        edges.names("Promise 17", "NONE if there are not so many.");
        for (int what = 0; what <= 3; what++) {
            int that = what;
            edges.refusedIn(Scene.NEW, "waiting of none", CoinErrands.NONE, x -> x.waiting(0, 0, that));
            edges.refused("waiting behind the last one", CoinErrands.NONE, x -> x.waiting(0, x.house(0, 3), that));
            edges.refused("waiting far behind", CoinErrands.NONE, x -> x.waiting(0, 80, that));
            edges.refused("waiting at the greatest number", CoinErrands.NONE, x -> x.waiting(5, Integer.MAX_VALUE, that));
        }
        CoinErrands crowd = Scene.CROWD.make();
        edges.due("the last one of many", 1, crowd.waiting(0, crowd.house(0, 3) - 1, 3) >= 1 ? 1 : 0);
    }

    private void ranksInOrder() {
        edges.names("Promise 18", "Returns something of a message that is on its way.");
        edges.names("Promise 18", "`rank`: 0 for the one that arrives first, of several at one time the one that was sent first, and so on");
        CoinErrands x = new CoinErrands();
        x.setBankTime(0, 9);
        x.setBankTime(1, 9);
        x.setBankTime(2, 1);
        x.setBankTime(3, 8);
        x.setBankTime(4, 2);
        Check.type(x, "0:1;1:1;2:1;0:2;1:2");
        x.launch();
        x.pass(1);
        Check.retype(x, "3:1;4:1");
        x.launch();
        int[] houses = {4, 2, 0, 1, 0, 1, 3};
        int[] work = {1, 0, 1, 1, 2, 2, 1};
        int[] ticks = {2, 1, 8, 8, 8, 8, 8};
        int[] rank = {1, 0, 2, 3, 4, 5, 6};
        for (int i = 0; i < 7; i++) {
            edges.due("to, number " + i, i == 1 ? 6 : houses[i], x.message(rank[i], 2));
            edges.due("work, number " + i, work[i], x.message(rank[i], 5));
            edges.due("ticks, number " + i, ticks[i], x.message(rank[i], 4));
        }
        edges.due("no more", CoinErrands.NONE, x.message(7, 0));
    }

    private void isMessage(CoinErrands x, int rank, int... want) {
        for (int what = 0; what <= 6; what++) {
            edges.due("rank " + rank + ", what " + what, want[what], x.message(rank, what));
        }
    }

    private void whatOfMessage() {
        edges.names("Promise 18", "`what`: 0 for its kind, 1 for the house or the bank (6) from which it is, 2 for the house or the bank (6) to which it goes, 3 for the grains that it carries, 4 for the ticks until it arrives, 5 for the work of its errand (0 without one), 6 for its errand and all that is within it (0 without one)");
        CoinErrands x = Scene.made(2, 1, "5:20(0:9(1:1,2:1),0:0,0:7)");
        x.setBankTime(5, 9);
        x.launch();
        isMessage(x, 0, 0, 6, 5, 4, 9, 20, 6);
        x.pass(9);
        isMessage(x, 0, 0, 5, 0, 2, 2, 9, 3);
        isMessage(x, 1, 0, 5, 0, 1, 2, 0, 1);
        isMessage(x, 2, 1, 5, 6, 0, 9, 0, 0);
        x.pass(9);
        isMessage(x, 0, 2, 6, 5, 4, 9, 0, 0);
        x.lose(0);
        Check.retype(x, "3:0");
        x.launch();
        x.pass(3);
        isMessage(x, 0, 3, 0, 6, 5, 1, 0, 0);
        isMessage(x, 1, 3, 3, 6, 4, 3, 0, 0);
    }

    private void rangesOfMessage() {
        edges.names("Promise 18", "Returns the number; OUT_OF_RANGE (what, or rank is negative);");
        for (int no : new int[] {-1, 7, Integer.MIN_VALUE, Integer.MAX_VALUE}) {
            edges.refused("message(0, " + no + ")", CoinErrands.OUT_OF_RANGE, x -> x.message(0, no));
            edges.refused("message(999, " + no + ")", CoinErrands.OUT_OF_RANGE, x -> x.message(999, no));
        }
        for (int rank : new int[] {-1, -2, Integer.MIN_VALUE}) {
            edges.refused("message(" + rank + ", 0)", CoinErrands.OUT_OF_RANGE, x -> x.message(rank, 0));
            edges.refused("message(" + rank + ", 6)", CoinErrands.OUT_OF_RANGE, x -> x.message(rank, 6));
        }
    }

    private void messagesOfNotSoMany() {
        edges.names("Promise 18", "NONE if there are not so many.");
        for (int what = 0; what <= 6; what++) {
            int that = what;
            edges.refusedIn(Scene.NEW, "message of none", CoinErrands.NONE, x -> x.message(0, that));
            edges.refused("message behind the last one", CoinErrands.NONE, x -> x.message(x.total(6), that));
            edges.refused("message at the greatest number", CoinErrands.NONE, x -> x.message(Integer.MAX_VALUE, that));
        }
        CoinErrands x = Scene.MIDDLE.make();
        edges.due("the last one", 1, x.message(x.total(6) - 1, 4) >= 1 ? 1 : 0);
        x.pass(1);
        x = Check.launched("1:1");
        edges.due("the only one", 0, x.message(0, 0));
        x.lose(0);
        edges.due("no more", CoinErrands.NONE, x.message(0, 0));
    }

    private void isTotal(String when, CoinErrands x, int... want) {
        for (int what = 0; what <= 16; what++) {
            edges.due("total " + what + " " + when, want[what], x.total(what));
        }
    }

    private void whatOfTotal() {
        edges.names("Promise 19", "Returns a number of the whole.");
        edges.names("Promise 19", "`what`: 0 for the time, 1 for grains minted so far, 2 for grains that have come back, 3 for grains in houses, 4 for grains on their way, 5 for grains that are lost and not made good, 6 for messages on their way, 7 for busy houses, 8 for errands launched so far, 9 for coins minted so far, 10 for messages lost so far, 11 for whether the bank knows that all is quiet (1, otherwise 0), 12 for whether no house is busy and no errand, ask or grant is on its way (1, otherwise 0), 13 and 14 for the settings 0 and 1, 15 for the states in the history, 16 for the length of the text");
        edges.names("Promise 19", "Returns the number;");
        CoinErrands x = new CoinErrands();
        isTotal("at first", x, 0, 0, 0, 0, 0, 0, 0, 0, 0, 0, 0, 1, 1, 8, 1, 0, 0);
        Check.type(x, "2:3(3:1,3:1,3:1)");
        x.set(0, 2);
        x.launch();
        isTotal("with an errand on its way", x, 0, 4, 0, 0, 4, 0, 1, 0, 1, 1, 0, 0, 0, 2, 1, 2, 16);
        x.pass(3);
        isTotal("with parts and an ask on their way", x, 3, 4, 0, 1, 3, 0, 3, 1, 1, 1, 0, 0, 0, 2, 1, 3, 16);
        x.lose(1);
        isTotal("with a lost part", x, 3, 4, 0, 1, 2, 1, 2, 1, 1, 1, 1, 0, 0, 2, 1, 4, 16);
        x.pass(3);
        isTotal("with a grant", x, 6, 8, 0, 1, 6, 1, 2, 1, 1, 2, 1, 0, 0, 2, 1, 4, 16);
        x.makeGood();
        isTotal("with what is made good", x, 6, 8, 1, 1, 6, 0, 2, 1, 1, 2, 1, 0, 0, 2, 1, 4, 16);
        x.pass(3);
        x.clearText();
        isTotal("without a text", x, 9, 8, 3, 0, 5, 0, 2, 0, 1, 2, 1, 0, 0, 2, 1, 4, 0);
    }

    private void totalsOfQuietAndIdle() {
        edges.names("Promise 19", "12 for whether no house is busy and no errand, ask or grant is on its way (1, otherwise 0),");
        CoinErrands x = Scene.made(2, 3, "2:1(3:0)");
        x.launch();
        edges.due("an errand is on its way", 0, x.total(12));
        x.pass(3);
        edges.due("a house is busy and an ask is on its way", 0, x.total(12));
        x.lose(0);
        edges.due("a house is busy", 0, x.total(12));
        x.undo();
        x.pass(3);
        edges.due("a grant is on its way", 0, x.total(12));
        x.pass(3);
        edges.due("no house is busy, but an errand is on its way", 0, x.total(12));
        x.lose(0);
        edges.due("only grains are on their way", 1, x.total(12));
        edges.due("the bank does not know it", 0, x.total(11));
        x.pass(3);
        edges.due("the bank waits for what is lost", 0, x.total(11));
        x.makeGood();
        edges.due("it knows", 1, x.total(11));
        edges.due("all is idle", 1, x.total(12));
    }

    private void noWhatOfTotal() {
        edges.names("Promise 19", "OUT_OF_RANGE.");
        for (int what : new int[] {-1, 17, Integer.MIN_VALUE, Integer.MAX_VALUE}) {
            edges.refused("total(" + what + ")", CoinErrands.OUT_OF_RANGE, x -> x.total(what));
        }
    }
}
