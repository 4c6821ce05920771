/** Promises 1 to 4, 14 and 15: a new object, the times and the settings. */
public final class TimesAndSettingsTest {
    private static final Check CHECK = new Check();

    public static void main(String[] args) {
        newObject();
        timesBetweenHouses();
        bankTimes();
        settings();
        messagesOnTheirWayArriveAsBefore();
        settingsMatterFromThenOn();
        CHECK.end();
    }

    private static void newObject() {
        CoinErrands x = new CoinErrands();
        for (int what = 0; what <= 16; what++) {
            long want = what == 11 || what == 12 || what == 14 ? 1 : what == 13 ? 8 : 0;
            CHECK.due("new total " + what, want, x.total(what));
        }
        for (int house = 0; house < 6; house++) {
            for (int what = 0; what <= 8; what++) {
                CHECK.due("new house " + house + " " + what, 0, x.house(house, what));
            }
            CHECK.due("new waiting", CoinErrands.NONE, x.waiting(house, 0, 0));
            CHECK.due("new bankTime", 3, x.bankTime(house));
            for (int other = 0; other < 6; other++) {
                CHECK.due("new time", house == other ? 1 : 2, x.time(house, other));
            }
        }
        CHECK.due("new message", CoinErrands.NONE, x.message(0, 0));
        CHECK.due("new quietIn", 0, x.quietIn());
        CHECK.due("new idleIn", 0, x.idleIn());
        CHECK.due("new undo", CoinErrands.NONE, x.undo());
        CHECK.due("new restore", CoinErrands.NONE, x.restore());
        CHECK.due("new clearText", 0, x.clearText());
        CHECK.due("UNKNOWN", -1, CoinErrands.UNKNOWN);
        CHECK.due("OUT_OF_RANGE", -2, CoinErrands.OUT_OF_RANGE);
        CHECK.due("FULL", -3, CoinErrands.FULL);
        CHECK.due("NONE", -5, CoinErrands.NONE);
    }

    private static void timesBetweenHouses() {
        CoinErrands x = new CoinErrands();
        CHECK.due("setTime 1 4 9", 2, x.setTime(1, 4, 9));
        CHECK.due("time 1 4", 9, x.time(1, 4));
        CHECK.due("time 4 1", 9, x.time(4, 1));
        CHECK.due("time 4 2 is as before", 2, x.time(4, 2));
        CHECK.due("setTime 4 1 9 again", CoinErrands.NONE, x.setTime(4, 1, 9));
        CHECK.due("setTime 4 1 1", 9, x.setTime(4, 1, 1));
        CHECK.due("time 1 4", 1, x.time(1, 4));
        CHECK.due("two changes", 2, x.total(15));
        int[] noHouse = {-1, 6, 7, Integer.MIN_VALUE, Integer.MAX_VALUE};
        for (int house : noHouse) {
            CHECK.due("setTime no house", CoinErrands.UNKNOWN, x.setTime(house, 0, 0));
            CHECK.due("setTime no house", CoinErrands.UNKNOWN, x.setTime(0, house, 10));
            CHECK.due("setTime no house", CoinErrands.UNKNOWN, x.setTime(house, house, 5));
            CHECK.due("time no house", CoinErrands.UNKNOWN, x.time(house, 0));
            CHECK.due("time no house", CoinErrands.UNKNOWN, x.time(5, house));
            CHECK.due("bankTime no house", CoinErrands.UNKNOWN, x.bankTime(house));
            CHECK.due("setBankTime no house", CoinErrands.UNKNOWN, x.setBankTime(house, 0));
        }
        CHECK.due("setTime to itself", CoinErrands.OUT_OF_RANGE, x.setTime(3, 3, 1));
        CHECK.due("setTime to itself", CoinErrands.OUT_OF_RANGE, x.setTime(3, 3, 2));
        CHECK.due("setTime 0 ticks", CoinErrands.OUT_OF_RANGE, x.setTime(3, 2, 0));
        CHECK.due("setTime 10 ticks", CoinErrands.OUT_OF_RANGE, x.setTime(3, 2, 10));
        CHECK.due("setTime -1 ticks", CoinErrands.OUT_OF_RANGE, x.setTime(3, 2, Integer.MIN_VALUE));
        CHECK.due("errors record nothing", 2, x.total(15));
    }

    private static void bankTimes() {
        CoinErrands x = new CoinErrands();
        CHECK.due("setBankTime 5 9", 3, x.setBankTime(5, 9));
        CHECK.due("bankTime 5", 9, x.bankTime(5));
        CHECK.due("bankTime 4", 3, x.bankTime(4));
        CHECK.due("setBankTime 5 9", CoinErrands.NONE, x.setBankTime(5, 9));
        CHECK.due("setBankTime 5 1", 9, x.setBankTime(5, 1));
        CHECK.due("setBankTime 0 0", CoinErrands.OUT_OF_RANGE, x.setBankTime(0, 0));
        CHECK.due("setBankTime 0 10", CoinErrands.OUT_OF_RANGE, x.setBankTime(0, 10));
        CHECK.due("times of houses are as before", 2, x.time(5, 0));
        CHECK.due("two changes", 2, x.total(15));
        CHECK.due("undo", 1, x.undo());
        CHECK.due("bankTime 5", 9, x.bankTime(5));
    }

    private static void settings() {
        CoinErrands x = new CoinErrands();
        CHECK.due("set 0 2", 8, x.set(0, 2));
        CHECK.due("set 0 16", 2, x.set(0, 16));
        CHECK.due("set 0 16", CoinErrands.NONE, x.set(0, 16));
        CHECK.due("set 0 1", CoinErrands.OUT_OF_RANGE, x.set(0, 1));
        CHECK.due("set 0 17", CoinErrands.OUT_OF_RANGE, x.set(0, 17));
        CHECK.due("set 1 1", CoinErrands.NONE, x.set(1, 1));
        CHECK.due("set 1 99", 1, x.set(1, 99));
        CHECK.due("set 1 0", CoinErrands.OUT_OF_RANGE, x.set(1, 0));
        CHECK.due("set 1 100", CoinErrands.OUT_OF_RANGE, x.set(1, 100));
        CHECK.due("set 2 1", CoinErrands.UNKNOWN, x.set(2, 1));
        CHECK.due("set -1 0", CoinErrands.UNKNOWN, x.set(-1, 0));
        CHECK.due("total 13", 16, x.total(13));
        CHECK.due("total 14", 99, x.total(14));
        CHECK.due("three changes", 3, x.total(15));
    }

    private static void messagesOnTheirWayArriveAsBefore() {
        CoinErrands x = Check.launched("2:1");
        CHECK.due("setBankTime while on the way", 3, x.setBankTime(2, 9));
        CHECK.due("ticks until it arrives", 3, x.message(0, 4));
        x.pass(3);
        CHECK.due("arrived as before", 1, x.house(2, 5));
        CHECK.due("idle at once, and home with the new time", 9, x.message(0, 4));

        x = Check.launched("2:0(3:0)");
        x.setTime(3, 2, 7);
        x.pass(3);
        CHECK.due("the part takes the new time", 7, firstTo(x, 3));
        x.setTime(3, 2, 1);
        CHECK.due("and keeps it", 7, firstTo(x, 3));
    }

    private static int firstTo(CoinErrands x, int place) {
        for (int rank = 0; rank < x.total(6); rank++) {
            if (x.message(rank, 2) == place) {
                return x.message(rank, 4);
            }
        }
        return -1;
    }

    private static void settingsMatterFromThenOn() {
        CoinErrands x = Check.launched("2:0(3:0)");
        x.set(0, 4);
        CHECK.due("the coin that is minted stays", 256, x.message(0, 3));
        x.launch();
        CHECK.due("the next one is of the setting", 16, x.message(1, 3));
        CHECK.due("minted", 272, x.total(1));

        x = new CoinErrands();
        Check.type(x, "2:0(3:0)");
        x.set(0, 2);
        x.set(1, 3);
        x.launch();
        x.pass(3);
        CHECK.due("4 grains are less than twice 3", 1, x.house(2, 4));
        x.set(1, 2);
        CHECK.due("the house looks again only when something arrives", 1, x.house(2, 3));
        x.pass(5);
        CHECK.due("before the grant arrives", 1, x.house(2, 3));
        x.pass(1);
        CHECK.due("8 grains are cut", 0, x.house(2, 3));
        CHECK.due("one errand is sent", 1, x.house(2, 6));
    }
}
