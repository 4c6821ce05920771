/** The terms TICKS and MESSAGES at their edges. */
final class TicksEdges {
    private final Edges edges;

    TicksEdges(Edges edges) {
        this.edges = edges;
    }

    void look() {
        timeIncreases();
        arrivalsAsSent();
        arrivalsBeforeWork();
        housesByTheirNumbers();
        workEndsAtZero();
        idleWithoutWork();
        idleWithNoneThatWaits();
        idleWithNoAskOut();
        allGrainsGoHome();
        kinds();
        lostMessages();
        lostAsksStayOut();
    }

    private void timeIncreases() {
        edges.names("TICKS", "A tick is done in this way: the time increases by 1.");
        CoinErrands x = new CoinErrands();
        edges.due("a tick", 1, x.pass(1));
        edges.due("a hundred ticks", 101, x.pass(100));
        edges.due("time", 101, x.total(0));
    }

    private void arrivalsAsSent() {
        edges.names("TICKS", "Then the messages that arrive at this time arrive one after the other, in the order in which they were sent.");
        CoinErrands x = Scene.made(2, 99, "0:0(1:1)");
        x.launch();
        x.pass(1);
        Check.retype(x, "0:0(2:2)");
        x.setBankTime(0, 2);
        x.launch();
        x.pass(1);
        Check.retype(x, "0:0(3:3)");
        x.setBankTime(0, 1);
        x.launch();
        x.pass(1);
        for (int place = 0; place < 3; place++) {
            edges.due("sent at the time " + place, place + 1, x.waiting(0, place, 0));
        }
        x = Scene.made(2, 99, "0:0(1:1);0:0(2:2)");
        x.launch();
        x.pass(3);
        edges.due("sent first at one time", 1, x.waiting(0, 0, 0));
        edges.due("sent last at one time", 2, x.waiting(0, 1, 0));
    }

    private void arrivalsBeforeWork() {
        edges.names("TICKS", "Then, for each house that is busy, by the numbers of the houses: if its work is more than 0, it becomes less by 1;");
        CoinErrands x = Check.launched("5:2;4:1");
        x.pass(3);
        edges.due("work in the tick of arrival", 1, x.house(5, 2));
        edges.due("1 is done in the tick of arrival", 0, x.house(4, 0));
        edges.due("a house that is not busy", 0, x.house(0, 2));
        edges.due("it was never idle before, and is not now", 0, x.house(0, 8));
    }

    private void housesByTheirNumbers() {
        edges.names("TICKS", "for each house that is busy, by the numbers of the houses:");
        CoinErrands x = Check.launched("5:0;3:0;0:0;4:0");
        x.pass(3);
        int[] order = {0, 3, 4, 5};
        for (int rank = 0; rank < order.length; rank++) {
            edges.due("home, rank " + rank, order[rank], x.message(rank, 1));
        }
    }

    private void workEndsAtZero() {
        edges.names("TICKS", "if its work is more than 0, it becomes less by 1;");
        CoinErrands x = Scene.made(2, 99, "2:2(3:0)");
        x.launch();
        x.pass(3);
        edges.due("1 of 2", 1, x.house(2, 2));
        x.pass(1);
        edges.due("0", 0, x.house(2, 2));
        x.pass(2);
        edges.due("no less than 0", 0, x.house(2, 2));
        edges.due("though it is busy", 1, x.house(2, 0));
    }

    private void idleWithoutWork() {
        edges.names("TICKS", "then, if its work is 0,");
        CoinErrands x = Check.launched("0:0;1:1;2:2");
        x.pass(3);
        edges.due("with 0 ticks of work", 0, x.house(0, 0));
        edges.due("with 1 tick of work", 0, x.house(1, 0));
        edges.due("with 2 ticks of work", 1, x.house(2, 0));
        x.pass(1);
        edges.due("with 2 ticks of work, then", 0, x.house(2, 0));
        edges.due("idle once", 1, x.house(0, 8));
        edges.due("idle once", 1, x.house(2, 8));
    }

    private void idleWithNoneThatWaits() {
        edges.names("TICKS", "no errand waits in it,");
        CoinErrands x = Scene.made(2, 3, "2:0(3:0)");
        x.launch();
        x.pass(8);
        edges.due("one waits", 1, x.house(2, 3));
        edges.due("busy", 1, x.house(2, 0));
        x.pass(1);
        edges.due("none waits", 0, x.house(2, 3));
        edges.due("idle", 0, x.house(2, 0));
    }

    private void idleWithNoAskOut() {
        edges.names("TICKS", "and no ask of it is out, it is idle,");
        CoinErrands x = Scene.made(2, 3, "2:0(3:0)");
        x.launch();
        x.pass(3);
        Check.retype(x, "2:0");
        x.launch();
        x.pass(3);
        edges.due("none waits", 0, x.house(2, 3));
        edges.due("an ask is out", 1, x.house(2, 4));
        edges.due("busy", 1, x.house(2, 0));
        edges.due("with its grains", 4, x.house(2, 1));
        x.pass(3);
        edges.due("none is out", 0, x.house(2, 4));
        edges.due("idle", 0, x.house(2, 0));
    }

    private void allGrainsGoHome() {
        edges.names("TICKS", "and sends all its grains to the bank (if it has any).");
        CoinErrands x = Scene.made(2, 1, "2:0(3:0,3:0)");
        x.launch();
        x.pass(3);
        edges.due("idle", 0, x.house(2, 0));
        edges.due("none stay", 0, x.house(2, 1));
        edges.due("1 goes home", 1, x.message(2, 3));
        edges.due("kind", 3, x.message(2, 0));
        edges.due("to the bank", 6, x.message(2, 2));
        x.pass(2);
        edges.due("2 and 1 go home together", 3, x.message(1, 3));
        edges.due("idle houses send nothing again", 2, x.total(6));
        x.pass(3);
        edges.due("nothing", 0, x.total(6));
        edges.due("idle once", 1, x.house(3, 8));
    }

    private void kinds() {
        edges.names("MESSAGES", "The kinds of messages are 0 an errand, 1 an ask, 2 a grant, 3 grains that come home.");
        CoinErrands x = Scene.made(2, 3, "2:0(3:0)");
        x.launch();
        edges.due("an errand", 0, x.message(0, 0));
        x.pass(3);
        edges.due("an ask", 1, x.message(0, 0));
        x.pass(3);
        edges.due("a grant", 2, x.message(0, 0));
        x.pass(3);
        edges.due("an errand of a house", 0, x.message(0, 0));
        edges.due("grains that come home", 3, x.message(1, 0));
    }

    private void lostMessages() {
        edges.names("MESSAGES", "A message can be lost: it does not arrive; the grains that it carries are lost.");
        CoinErrands x = Check.launched("2:0;3:0");
        x.lose(1);
        edges.due("lost", 256, x.total(5));
        edges.due("one is on its way", 1, x.total(6));
        x.pass(6);
        edges.due("it does not arrive", 0, x.house(3, 5));
        edges.due("the other one does", 1, x.house(2, 5));
        edges.due("back", 256, x.total(2));
        x.launch();
        x.pass(3);
        edges.due("grains that come home are lost", 256, x.lose(0));
        edges.due("lost", 512, x.total(5));
        x.pass(9);
        edges.due("they never come back", 512, x.total(2));
    }

    private void lostAsksStayOut() {
        edges.names("MESSAGES", "(If an ask or a grant is lost, the ask of that house stays out.)");
        for (int ticks = 3; ticks <= 6; ticks += 3) {
            CoinErrands x = Scene.made(2, 3, "5:0(0:0);0:0(5:0)");
            x.launch();
            x.pass(ticks);
            edges.due("kind", ticks / 3, x.message(0, 0));
            x.lose(0);
            x.pass(30);
            edges.due("house 5 waits for it", 1, x.house(5, 4));
            edges.due("busy", 1, x.house(5, 0));
            edges.due("and asks no more", 1, x.house(5, 7));
            edges.due("house 0 does not", 0, x.house(0, 4));
            edges.due("its errand has arrived", 2, x.house(5, 5));
        }
    }
}
