/** Promises 11 to 13: undo, keep and restore. */
public final class HistoryTest {
    private static final Check CHECK = new Check();

    public static void main(String[] args) {
        undoGoesBack();
        fourStatesAreKept();
        whatIsNoChange();
        textIsNoState();
        snapshotIsNoState();
        allIsBroughtBack();
        undoOfLosing();
        CHECK.end();
    }

    private static void undoGoesBack() {
        CoinErrands x = new CoinErrands();
        CHECK.due("undo of nothing", CoinErrands.NONE, x.undo());
        x.setTime(0, 1, 5);
        x.set(0, 9);
        CHECK.due("undo", 1, x.undo());
        CHECK.due("setting", 8, x.total(13));
        CHECK.due("time stays", 5, x.time(0, 1));
        CHECK.due("undo", 0, x.undo());
        CHECK.due("time", 2, x.time(1, 0));
        CHECK.due("undo", CoinErrands.NONE, x.undo());
    }

    private static void fourStatesAreKept() {
        CoinErrands x = new CoinErrands();
        for (int i = 1; i <= 7; i++) {
            CHECK.due("pass", i, x.pass(1));
            CHECK.due("states", Math.min(i, 4), x.total(15));
        }
        for (int i = 3; i >= 0; i--) {
            CHECK.due("undo", i, x.undo());
            CHECK.due("time", 3 + i, x.total(0));
        }
        CHECK.due("undo", CoinErrands.NONE, x.undo());
        CHECK.due("time", 3, x.total(0));
        x.pass(10);
        x.pass(10);
        CHECK.due("undo", 1, x.undo());
        CHECK.due("time", 13, x.total(0));
    }

    private static void whatIsNoChange() {
        CoinErrands x = new CoinErrands();
        Check.type(x, "1:1");
        x.keep();
        x.quietIn();
        x.idleIn();
        x.planned(0);
        x.leastCoin();
        x.makeGood();
        x.lose(0);
        x.set(0, 8);
        x.setTime(0, 1, 2);
        x.setBankTime(0, 3);
        x.pass(0);
        x.undo();
        x.clearText();
        x.launch();
        CHECK.due("nothing is recorded", 0, x.total(15));
        CHECK.due("restore is a change", 0, x.restore());
        CHECK.due("it is recorded", 1, x.total(15));
    }

    private static void textIsNoState() {
        CoinErrands x = Check.launched("1:1");
        x.keep();
        x.type(';');
        CHECK.due("undo", 0, x.undo());
        CHECK.due("text", 4, x.total(16));
        CHECK.due("nothing on its way", 0, x.total(6));
        x.clearText();
        CHECK.due("restore", 0, x.restore());
        CHECK.due("text", 0, x.total(16));
        CHECK.due("one on its way", 1, x.total(6));
    }

    private static void snapshotIsNoState() {
        CoinErrands x = new CoinErrands();
        CHECK.due("restore of nothing", CoinErrands.NONE, x.restore());
        CHECK.due("keep", 0, x.keep());
        x.pass(5);
        CHECK.due("keep", 5, x.keep());
        x.pass(5);
        CHECK.due("undo leaves the snapshot", 1, x.undo());
        x.undo();
        CHECK.due("time", 0, x.total(0));
        CHECK.due("restore", 5, x.restore());
        x.pass(1);
        CHECK.due("the snapshot stays", 5, x.restore());
        CHECK.due("states", 3, x.total(15));
        CHECK.due("undo of restore", 2, x.undo());
        CHECK.due("time", 6, x.total(0));
        CHECK.due("undo", 1, x.undo());
        CHECK.due("time", 5, x.total(0));
        CHECK.due("undo", 0, x.undo());
        CHECK.due("time", 0, x.total(0));
    }

    private static long sum(CoinErrands x) {
        long sum = 0;
        for (int what = 0; what <= 14; what++) {
            sum = sum * 31 + x.total(what);
        }
        for (int house = 0; house < 6; house++) {
            sum = sum * 31 + x.bankTime(house);
            for (int what = 0; what <= 8; what++) {
                sum = sum * 31 + x.house(house, what);
            }
            for (int other = 0; other < 6; other++) {
                sum = sum * 31 + x.time(house, other);
            }
            for (int place = 0; place < x.house(house, 3); place++) {
                for (int what = 0; what <= 3; what++) {
                    sum = sum * 31 + x.waiting(house, place, what);
                }
            }
        }
        for (int rank = 0; rank < x.total(6); rank++) {
            for (int what = 0; what <= 6; what++) {
                sum = sum * 31 + x.message(rank, what);
            }
        }
        return sum * 31 + x.quietIn() * 1000L + x.idleIn();
    }

    private static CoinErrands inTheMiddle() {
        CoinErrands x = new CoinErrands();
        Check.type(x, "0:3(1:5(2:0,3:1),1:4);4:2(0:0,0:0,0:0,5:1);4:1");
        x.set(0, 3);
        x.set(1, 2);
        x.setTime(0, 1, 4);
        x.setBankTime(4, 2);
        x.launch();
        x.pass(4);
        return x;
    }

    private static void allIsBroughtBack() {
        CoinErrands x = inTheMiddle();
        long before = sum(x);
        x.keep();
        x.pass(7);
        x.lose(0);
        x.launch();
        CHECK.due("it is another state", 1, sum(x) != before ? 1 : 0);
        x.undo();
        x.undo();
        x.undo();
        CHECK.due("undo brings all back", before, sum(x));
        x.pass(40);
        x.makeGood();
        x.set(0, 15);
        x.setTime(4, 5, 9);
        x.setBankTime(2, 8);
        x.launch();
        x.pass(3);
        x.restore();
        CHECK.due("restore brings all back", before, sum(x));
        x.pass(100);
        CoinErrands same = inTheMiddle();
        same.pass(100);
        CHECK.due("and it goes on as it would have", sum(same), sum(x));
    }

    private static void undoOfLosing() {
        CoinErrands x = Check.launched("1:1");
        x.lose(0);
        x.undo();
        CHECK.due("nothing is lost", CoinErrands.NONE, x.makeGood());
        CHECK.due("it is on its way", 1, x.total(6));
        x.lose(0);
        x.makeGood();
        x.undo();
        CHECK.due("lost again", 256, x.total(5));
        CHECK.due("makeGood", 256, x.makeGood());
        CHECK.due("makeGood", CoinErrands.NONE, x.makeGood());
    }
}
