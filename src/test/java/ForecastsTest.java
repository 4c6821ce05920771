/** Promises 20, 21 and 23: quietIn, idleIn and leastCoin. */
public final class ForecastsTest {
    private static final Check CHECK = new Check();

    public static void main(String[] args) {
        oneErrand();
        foretoldIsWhatComes();
        atMostFiveHundred();
        lostIsNeverQuiet();
        leastCoinOfTrees();
        leastCoinIsOfIdleHouses();
        leastCoinOfNone();
        CHECK.end();
    }

    private static void oneErrand() {
        CoinErrands x = Check.launched("3:2");
        CHECK.due("idleIn", 4, x.idleIn());
        CHECK.due("quietIn", 7, x.quietIn());
        x.pass(4);
        CHECK.due("idleIn", 0, x.idleIn());
        CHECK.due("quietIn", 3, x.quietIn());
        x.pass(3);
        CHECK.due("quietIn", 0, x.quietIn());
        CHECK.due("states", 3, x.total(15));
    }

    private static void foretoldIsWhatComes() {
        CoinErrands x = new CoinErrands();
        Check.type(x, "0:9(1:3(2:0,3:1),1:4);4:2(0:0,0:0,0:0,5:1);4:1");
        x.set(0, 2);
        x.set(1, 5);
        x.launch();
        int quiet = x.quietIn();
        int idle = x.idleIn();
        CHECK.due("it takes a while", 1, quiet > idle && idle > 20 ? 1 : 0);
        for (int tick = 0; tick <= quiet + 5; tick++) {
            CHECK.due("quietIn", Math.max(0, quiet - tick), x.quietIn());
            CHECK.due("idleIn", Math.max(0, idle - tick), x.idleIn());
            CHECK.due("quiet", tick >= quiet ? 1 : 0, x.total(11));
            CHECK.due("idle", tick >= idle ? 1 : 0, x.total(12));
            CHECK.due("time", tick + 1, x.pass(1));
        }
    }

    /** 4 launches of 4 errands with 20 ticks each, and 9 more as need be, in one house. */
    private static void atMostFiveHundred() {
        CoinErrands x = new CoinErrands();
        x.set(0, 16);
        Check.type(x, "0:20;0:20;0:20;0:20;0:20;0:20;0:20;0:20");
        x.launch();
        x.launch();
        x.launch();
        CHECK.due("3 to arrive, 480 of work, the first in the tick of arrival", 482, x.idleIn());
        CHECK.due("3 more to come home", 485, x.quietIn());
        Check.retype(x, "0:15");
        x.launch();
        CHECK.due("idleIn", 497, x.idleIn());
        CHECK.due("quietIn", 500, x.quietIn());
        Check.retype(x, "0:1");
        x.launch();
        CHECK.due("idleIn", 498, x.idleIn());
        CHECK.due("quietIn", CoinErrands.NONE, x.quietIn());
        x.launch();
        x.launch();
        CHECK.due("idleIn", 500, x.idleIn());
        x.launch();
        CHECK.due("idleIn", CoinErrands.NONE, x.idleIn());
        x.pass(1);
        CHECK.due("idleIn", 500, x.idleIn());
        CHECK.due("quietIn", CoinErrands.NONE, x.quietIn());
        x.pass(3);
        CHECK.due("quietIn", 500, x.quietIn());
    }

    private static void lostIsNeverQuiet() {
        CoinErrands x = Check.launched("3:2;4:1");
        x.lose(0);
        CHECK.due("quietIn", CoinErrands.NONE, x.quietIn());
        CHECK.due("idleIn", 3, x.idleIn());
        x.makeGood();
        CHECK.due("quietIn", 6, x.quietIn());

        x = new CoinErrands();
        Check.type(x, "4:1(5:0)");
        x.set(0, 2);
        x.set(1, 3);
        x.launch();
        CHECK.due("asks are waited for", 11, x.idleIn());
        x.pass(3);
        x.lose(0);
        CHECK.due("a lost ask is waited for in vain", CoinErrands.NONE, x.idleIn());
        CHECK.due("and the bank waits", CoinErrands.NONE, x.quietIn());
        x.makeGood();
        CHECK.due("asked anew", 8, x.idleIn());
    }

    private static void least(String text, int leastPart, int want) {
        CoinErrands x = new CoinErrands();
        Check.type(x, text);
        x.set(1, leastPart);
        int before = x.total(15);
        CHECK.due("leastCoin of " + text + " with " + leastPart, want, x.leastCoin());
        CHECK.due("no change", before, x.total(15));
        CHECK.due("nothing on its way", 0, x.total(6));
    }

    private static void leastCoinOfTrees() {
        least("0:0", 1, 2);
        least("0:0", 99, 2);
        least("0:0(1:0)", 1, 2);
        least("0:0(1:0,1:0)", 1, 2);
        least("0:0(1:0,1:0,1:0)", 1, 3);
        least("0:0(1:0,1:0,1:0,1:0)", 1, 4);
        least("0:0(1:0)", 2, 2);
        least("0:0(1:0)", 3, 3);
        least("0:0(1:0)", 99, 8);
        least("0:0(1:0(2:0(3:0)))", 1, 3);
        least("0:0(1:0(2:0(3:0(4:0(5:0)))))", 1, 5);
        // two coins in the house at the same time serve the parts of both
        least("0:0;0:0(1:0,1:0,1:0)", 1, 2);
        least("0:0(1:0,1:0,1:0);0:0", 1, 3);
    }

    private static void leastCoinIsOfIdleHouses() {
        CoinErrands x = Check.launched("0:0(1:0,1:0,1:0)");
        x.pass(3);
        x.launch();
        x.set(0, 16);
        CHECK.due("what is there does not matter", 3, x.leastCoin());
        Check.retype(x, "0:0(1:0,1:0,1:0);3:0(0:0)");
        CHECK.due("two roots", 3, x.leastCoin());
        x.setBankTime(3, 1);
        Check.retype(x, "3:2(0:0);0:0(1:0,1:0,1:0)");
        CHECK.due("the part arrives with the errand, sent later", 3, x.leastCoin());
        Check.retype(x, "3:2(0:10);0:0(1:0,1:0,1:0)");
        x.setBankTime(0, 4);
        CHECK.due("the part's grains are there in time", 2, x.leastCoin());
        x.setTime(0, 3, 9);
        CHECK.due("not with a longer way", 3, x.leastCoin());
    }

    private static void leastCoinOfNone() {
        least("0:0(0:0,0:0,0:0,0:0,0:0,0:0,0:0,0:0,0:0,0:0,0:0,0:0,0:0)", 1, 13);
        least("0:0(0:0,0:0,0:0,0:0,0:0,0:0,0:0,0:0,0:0,0:0,0:0,0:0,0:0)", 8, 16);
        least("0:0(0:0,0:0,0:0,0:0,0:0,0:0,0:0,0:0,0:0,0:0,0:0,0:0,0:0)", 9, CoinErrands.NONE);
        least("0:0(0:0,0:0,0:0,0:0,0:0,0:0,0:0,0:0,0:0)", 99, 16);
        least("0:0(0:0,0:0,0:0,0:0,0:0,0:0,0:0,0:0,0:0,0:0)", 99, CoinErrands.NONE);
    }
}
