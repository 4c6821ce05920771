/** Promises 9, 10 and 22, and the faults of launch and leastCoin: texts. */
public final class TextsTest {
    private static final Check CHECK = new Check();

    public static void main(String[] args) {
        typing();
        anyCharacter();
        faults();
        soundTexts();
        deepAndWide();
        plannedWantsANumber();
        partsWaitAsTheyStand();
        CHECK.end();
    }

    private static void typing() {
        CoinErrands x = new CoinErrands();
        for (int i = 1; i <= 60; i++) {
            CHECK.due("type " + i, i, x.type('0'));
        }
        CHECK.due("type 61", CoinErrands.FULL, x.type('0'));
        CHECK.due("length", 60, x.total(16));
        CHECK.due("clearText", 60, x.clearText());
        CHECK.due("length", 0, x.total(16));
        CHECK.due("clearText", 0, x.clearText());
        CHECK.due("texts are no changes", 0, x.total(15));
        CHECK.due("type again", 1, x.type('1'));
    }

    private static void anyCharacter() {
        char[] odd = {(char) 0, ' ', '/', ':', '+', '-', '6', (char) 178, (char) 255, (char) 0x660, (char) 0xffff};
        for (char character : odd) {
            CoinErrands x = new CoinErrands();
            CHECK.due("type " + (int) character, 1, x.type(character));
            CHECK.due("not allowed " + (int) character, -100, x.launch());
            Check.retype(x, "1:");
            x.type(character);
            CHECK.due("work " + (int) character, character == '6' ? 1 : -102, x.launch());
        }
    }

    private static void faultAt(String text, int fault) {
        CoinErrands x = new CoinErrands();
        Check.type(x, text);
        for (int what = 0; what <= 3; what++) {
            CHECK.due("planned of " + text, -100 - fault, x.planned(what));
        }
        CHECK.due("launch of " + text, -100 - fault, x.launch());
        CHECK.due("leastCoin of " + text, -100 - fault, x.leastCoin());
        CHECK.due("no change by " + text, 0, x.total(15));
        CHECK.due("nothing on its way by " + text, 0, x.total(6));
    }

    private static void faults() {
        faultAt("", 0);
        faultAt("0", 1);
        faultAt("0:", 2);
        faultAt("6:1", 0);
        faultAt(":1", 0);
        faultAt("00:1", 1);
        faultAt("0;1", 1);
        faultAt("0::1", 2);
        faultAt("0:(", 2);
        faultAt("0:;", 2);
        faultAt("0:-1", 2);
        faultAt("0:00", 3);
        faultAt("0:01", 3);
        faultAt("0:21", 3);
        faultAt("0:30", 3);
        faultAt("0:100", 4);
        faultAt("0:200", 4);
        faultAt("0:1;", 4);
        faultAt("0:1;;", 4);
        faultAt("0:1,1:1", 3);
        faultAt("0:1)", 3);
        faultAt("0:1:", 3);
        faultAt("0:1 ", 3);
        faultAt("0:1(", 4);
        faultAt("0:1()", 4);
        faultAt("0:1(1:1", 7);
        faultAt("0:1(1:1;", 7);
        faultAt("0:1(1:1,", 8);
        faultAt("0:1(1:1,)", 8);
        faultAt("0:1(1:1))", 8);
        faultAt("0:1(1:1)(", 8);
        faultAt("0:1(1:1)2", 8);
        faultAt("0:1(1:1),", 8);
        faultAt("0:1(1:1(2:2)", 12);
        faultAt("0:1(1:1(2:2);", 12);
        faultAt("0:1(1:1);0:2(2:5", 16);
        faultAt("0:1(1:1);0:2)2:5", 12);
        faultAt("0:0(0:0(0:0(0:0(0:0(0:0(0:0(0:0(0:0(0:0(0:0(0:0(0:0(0:0(0:0(", 60);
        faultAt("0:0;0:0;0:0;0:0;0:0;0:0;0:0;0:0;0:0;0:0;0:0;0:0;0:0;0:0;0:0;", 60);
        faultAt("0:0(0:0,0:0,0:0,0:0,0:0,0:0,0:0,0:0,0:0,0:0,0:0,0:0,0:0,0:00", 59);
    }

    private static void sound(String text, int all, int work, int depth, int parts) {
        CoinErrands x = new CoinErrands();
        Check.type(x, text);
        CHECK.due("all of " + text, all, x.planned(0));
        CHECK.due("work of " + text, work, x.planned(1));
        CHECK.due("depth of " + text, depth, x.planned(2));
        CHECK.due("parts of " + text, parts, x.planned(3));
        CHECK.due("no change", 0, x.total(15));
    }

    private static void soundTexts() {
        sound("0:0", 1, 0, 1, 0);
        sound("5:20", 1, 20, 1, 0);
        sound("5:10", 1, 10, 1, 0);
        sound("5:19;0:9", 2, 28, 1, 0);
        sound("1:1(2:2)", 2, 3, 2, 1);
        sound("1:1(2:2,3:3)", 3, 6, 2, 2);
        sound("1:1(2:2(3:3),4:4);5:5(0:0,0:0,0:20)", 8, 35, 3, 3);
        sound("1:12(2:20)", 2, 32, 2, 1);
        sound("1:0(1:0(1:0,1:0,1:0),1:0);0:0(0:0)", 8, 0, 3, 3);
        sound("1:1(2:2,3:3);1:1;1:1", 5, 8, 2, 2);
    }

    private static void deepAndWide() {
        sound("0:1(0:1(0:1(0:1(0:1(0:1(0:1(0:1(0:1(0:1(0:1(0:1)))))))))))", 12, 12, 12, 1);
        sound("0:1;0:1;0:1;0:1;0:1;0:1;0:1;0:1;0:1;0:1;0:1;0:1;0:1;0:1;0:1", 15, 15, 1, 0);
        sound("0:0(0:0,0:0,0:0,0:0,0:0,0:0,0:0,0:0,0:0,0:0,0:0,0:0,0:0)", 14, 0, 2, 13);
    }

    private static void plannedWantsANumber() {
        CoinErrands x = new CoinErrands();
        int[] wrong = {-1, 4, Integer.MIN_VALUE, Integer.MAX_VALUE};
        for (int what : wrong) {
            CHECK.due("planned of a fault", CoinErrands.OUT_OF_RANGE, x.planned(what));
        }
        Check.type(x, "0:0");
        for (int what : wrong) {
            CHECK.due("planned", CoinErrands.OUT_OF_RANGE, x.planned(what));
        }
    }

    /** The tree as it is read shows in what waits. */
    private static void partsWaitAsTheyStand() {
        CoinErrands x = new CoinErrands();
        Check.type(x, "0:1(1:2(2:3,3:4(4:5)),5:20,2:0(0:9))");
        x.set(0, 2);
        x.set(1, 99);
        x.launch();
        CHECK.due("all of the message", 8, x.message(0, 6));
        CHECK.due("work of the message", 1, x.message(0, 5));
        x.pass(3);
        int[][] want = {{1, 2, 2, 4}, {5, 20, 0, 1}, {2, 0, 1, 2}};
        for (int place = 0; place < 3; place++) {
            for (int what = 0; what < 4; what++) {
                CHECK.due("waiting " + place + " " + what, want[place][what], x.waiting(0, place, what));
            }
        }
        CHECK.due("three wait", 3, x.house(0, 3));
        CHECK.due("no fourth", CoinErrands.NONE, x.waiting(0, 3, 0));
    }
}
