/** Promises 16 to 19: house, waiting, message and total. */
public final class ViewsTest {
    private static final Check CHECK = new Check();
    private static final int[] NO_HOUSES = {-1, 6, Integer.MIN_VALUE, Integer.MAX_VALUE};

    public static void main(String[] args) {
        wrongHouses();
        wrongNumbers();
        messagesOfEachKind();
        totalsAddUp();
        housesAreTold();
        CHECK.end();
    }

    private static void wrongHouses() {
        CoinErrands x = new CoinErrands();
        for (int house : NO_HOUSES) {
            CHECK.due("house", CoinErrands.UNKNOWN, x.house(house, 0));
            CHECK.due("house", CoinErrands.UNKNOWN, x.house(house, 9));
            CHECK.due("waiting", CoinErrands.UNKNOWN, x.waiting(house, 0, 0));
            CHECK.due("waiting", CoinErrands.UNKNOWN, x.waiting(house, -1, 4));
        }
    }

    private static void wrongNumbers() {
        CoinErrands x = Check.launched("0:0(0:0)");
        int[] wrong = {-1, 100, Integer.MIN_VALUE, Integer.MAX_VALUE};
        for (int what : wrong) {
            CHECK.due("house", CoinErrands.OUT_OF_RANGE, x.house(0, what));
            CHECK.due("waiting", CoinErrands.OUT_OF_RANGE, x.waiting(0, 0, what));
            CHECK.due("message", CoinErrands.OUT_OF_RANGE, x.message(0, what));
            CHECK.due("message", CoinErrands.OUT_OF_RANGE, x.message(99, what));
            CHECK.due("total", CoinErrands.OUT_OF_RANGE, x.total(what));
        }
        CHECK.due("house 9", CoinErrands.OUT_OF_RANGE, x.house(0, 9));
        CHECK.due("waiting 4", CoinErrands.OUT_OF_RANGE, x.waiting(0, 0, 4));
        CHECK.due("message 7", CoinErrands.OUT_OF_RANGE, x.message(0, 7));
        CHECK.due("total 17", CoinErrands.OUT_OF_RANGE, x.total(17));
        CHECK.due("place -1", CoinErrands.OUT_OF_RANGE, x.waiting(0, -1, 0));
        CHECK.due("rank -1", CoinErrands.OUT_OF_RANGE, x.message(-1, 0));
        CHECK.due("place max", CoinErrands.NONE, x.waiting(0, Integer.MAX_VALUE, 0));
        CHECK.due("rank 1", CoinErrands.NONE, x.message(1, 0));
        CHECK.due("rank max", CoinErrands.NONE, x.message(Integer.MAX_VALUE, 6));
    }

    private static void isMessage(CoinErrands x, int rank, int... want) {
        for (int what = 0; what < want.length; what++) {
            CHECK.due("message " + rank + " " + what, want[what], x.message(rank, what));
        }
    }

    private static void messagesOfEachKind() {
        CoinErrands x = new CoinErrands();
        Check.type(x, "2:5(3:7(1:0),4:1,5:2);3:0");
        x.set(0, 2);
        x.setBankTime(3, 9);
        x.launch();
        CHECK.due("messages", 2, x.total(6));
        isMessage(x, 0, 0, 6, 2, 4, 3, 5, 5);
        isMessage(x, 1, 0, 6, 3, 4, 9, 0, 1);
        x.pass(3);
        CHECK.due("messages", 4, x.total(6));
        isMessage(x, 0, 0, 2, 3, 2, 2, 7, 2);
        isMessage(x, 1, 0, 2, 4, 1, 2, 1, 1);
        isMessage(x, 2, 1, 2, 6, 0, 3, 0, 0);
        isMessage(x, 3, 0, 6, 3, 4, 6, 0, 1);
        x.pass(2);
        CHECK.due("messages", 4, x.total(6));
        isMessage(x, 0, 1, 2, 6, 0, 1, 0, 0);
        isMessage(x, 1, 0, 3, 1, 1, 2, 0, 1);
        isMessage(x, 2, 3, 4, 6, 1, 3, 0, 0);
        isMessage(x, 3, 0, 6, 3, 4, 4, 0, 1);
        x.pass(1);
        isMessage(x, 0, 0, 3, 1, 1, 1, 0, 1);
        isMessage(x, 1, 3, 4, 6, 1, 2, 0, 0);
        isMessage(x, 2, 0, 6, 3, 4, 3, 0, 1);
        isMessage(x, 3, 2, 6, 2, 4, 3, 0, 0);
    }

    private static void totalsAddUp() {
        CoinErrands x = new CoinErrands();
        Check.type(x, "0:9(1:3(2:0,3:1),1:4);4:2(0:0,0:0,0:0,5:1);4:1");
        x.set(0, 3);
        x.set(1, 2);
        x.launch();
        x.lose(1);
        for (int i = 0; i < 60; i++) {
            x.pass(1);
            int houses = 0;
            int busy = 0;
            for (int house = 0; house < 6; house++) {
                houses += x.house(house, 1);
                busy += x.house(house, 0);
            }
            int under = 0;
            for (int rank = 0; rank < x.total(6); rank++) {
                under += x.message(rank, 3);
            }
            CHECK.due("in houses", houses, x.total(3));
            CHECK.due("busy", busy, x.total(7));
            CHECK.due("on their way", under, x.total(4));
            CHECK.due("no grain is gone", x.total(1), x.total(2) + x.total(3) + x.total(4) + x.total(5));
            CHECK.due("no rank behind", CoinErrands.NONE, x.message(x.total(6), 0));
        }
        CHECK.due("idle", 1, x.total(12));
        CHECK.due("not quiet", 0, x.total(11));
        CHECK.due("time", 60, x.total(0));
        CHECK.due("launched", 3, x.total(8));
        CHECK.due("coins", x.total(1) / 8, x.total(9));
        CHECK.due("lost", 1, x.total(10));
        CHECK.due("settings", 3, x.total(13));
        CHECK.due("settings", 2, x.total(14));
        CHECK.due("states", 4, x.total(15));
        CHECK.due("text", 46, x.total(16));
    }

    private static void housesAreTold() {
        CoinErrands x = Check.launched("1:3(2:0,1:2)");
        x.pass(3);
        int[] first = {1, 64, 2, 0, 0, 1, 2, 0, 0};
        for (int what = 0; what < first.length; what++) {
            CHECK.due("house 1 " + what, first[what], x.house(1, what));
        }
        x.pass(1);
        int[] second = {1, 128, 3, 0, 0, 2, 2, 0, 0};
        for (int what = 0; what < second.length; what++) {
            CHECK.due("house 1 then " + what, second[what], x.house(1, what));
        }
        x.pass(3);
        int[] third = {0, 0, 0, 0, 0, 2, 2, 0, 1};
        for (int what = 0; what < third.length; what++) {
            CHECK.due("house 1 at last " + what, third[what], x.house(1, what));
        }
    }
}
