/** TEXTS and the promises 9, 10 and 22 at their edges: what a text may be, its fault, and what it plans. */
final class TextsEdges {
    private static final String FIFTEEN = "0:0;1:0;2:0;3:0;4:0;5:0;0:0;1:0;2:0;3:0;4:0;5:0;0:0;1:0;2:0";
    /** Characters beside those that are allowed, those that a byte or 7 bits would mix up with them, and other digits. */
    private static final char[] ODD = {(char) 0, ' ', '/', '<', '*', '+', '-', 'A', 'a', (char) 127, (char) 128,
        (char) ('0' + 128), (char) ('0' + 256), (char) (':' + 256), (char) 178, (char) 255, (char) 0x661, (char) 0xff10, (char) 0xffff};

    private final Edges edges;

    TextsEdges(Edges edges) {
        this.edges = edges;
    }

    void look() {
        emptyAtFirst();
        listOfErrands();
        betweenErrands();
        houseDigit();
        colon();
        workNumber();
        zerosAhead();
        workAboveTwenty();
        partsInBrackets();
        betweenParts();
        closedParts();
        oddCharacters();
        firstFault();
        endTooEarly();
        emptyText();
        typing();
        anyCharacter();
        typeIntoFull();
        clearing();
        plannedNumbers();
        whatOfPlanned();
        plannedOfAFault();
    }

    private void fault(String text, int fault) {
        CoinErrands x = new CoinErrands();
        Check.type(x, text);
        for (int what = 0; what <= 3; what++) {
            edges.due("planned of '" + text + "'", -100 - fault, x.planned(what));
        }
        edges.due("leastCoin of '" + text + "'", -100 - fault, x.leastCoin());
        edges.due("launch of '" + text + "'", -100 - fault, x.launch());
    }

    private void sound(String text, int heads) {
        CoinErrands x = new CoinErrands();
        Check.type(x, text);
        edges.due("launch of '" + text + "'", heads, x.launch());
    }

    private void emptyAtFirst() {
        edges.names("TEXTS", "There is a text of at most 60 characters, empty at first.");
        edges.due("length", 0, new CoinErrands().total(16));
        edges.due("planned", -100, new CoinErrands().planned(0));
        sound("0:20;1:20;2:20;3:20;4:20;5:20;0:20;1:20;2:20;3:20;4:20;5:20", 12);
        CoinErrands x = new CoinErrands();
        Check.type(x, FIFTEEN + ";0:0");
        edges.due("60 and one, which is dropped, leave a list that ends too early", -160, x.launch());
        edges.due("length", 60, x.total(16));
    }

    private void listOfErrands() {
        edges.names("TEXTS", "It is a list of one or more errands");
        fault("", 0);
        sound("3:7", 1);
        sound("3:7;3:7", 2);
        sound(FIFTEEN, 15);
    }

    private void betweenErrands() {
        edges.names("TEXTS", "with \";\" between two.");
        fault(";", 0);
        fault(";1:1", 0);
        fault("1:1;;1:1", 4);
        fault("1:1;", 4);
        fault("1:1,1:1", 3);
        fault("1:20 1:1", 4);
        fault("1:1(1:1);;", 9);
        fault("1:1(1:1)1:1", 8);
        sound("1:1(1:1);1:1", 2);
        sound("1:20;1:0;1:1", 3);
    }

    private void houseDigit() {
        edges.names("TEXTS", "An errand is a digit from 0 to 5 (its house),");
        for (int house = 0; house <= 5; house++) {
            sound(house + ":1(" + house + ":1)", 1);
        }
        for (char no : new char[] {'6', '7', '9', '/', ':', '(', ')', ',', ';'}) {
            fault(no + ":1", 0);
            fault("1:1;" + no + ":1", 4);
            fault("1:1(" + no + ":1)", 4);
            fault("1:1(1:1," + no + ":1)", 8);
        }
    }

    private void colon() {
        edges.names("TEXTS", "\":\",");
        for (char no : new char[] {'0', '1', ';', ',', '(', ')', '9'}) {
            fault("1" + no + "1", 1);
            fault("1:1;1" + no, 5);
        }
        fault("1::1", 2);
        fault("1:1:", 3);
        fault("1:1:1", 3);
    }

    private void workNumber() {
        edges.names("TEXTS", "a number from 0 to 20 (its work;");
        for (int work = 0; work <= 20; work++) {
            CoinErrands x = Check.launched("1:" + work + ";2:" + work + "(3:" + work + ")");
            edges.due("work at the end of an errand", work, x.message(0, 5));
            edges.due("work ahead of parts", work, x.message(1, 5));
            edges.due("all work", 3 * work, x.planned(1));
        }
        fault("1:", 2);
        fault("1:;", 2);
        fault("1:,", 2);
        fault("1:)", 2);
        fault("1:(2:2)", 2);
        fault("1:-1", 2);
        fault("1:+1", 2);
    }

    private void zerosAhead() {
        edges.names("TEXTS", "without zeros ahead of other digits;");
        sound("1:0", 1);
        sound("1:10", 1);
        sound("1:20", 1);
        for (int digit = 0; digit <= 9; digit++) {
            fault("1:0" + digit, 3);
            fault("1:1(1:0" + digit + ")", 7);
        }
        fault("1:000", 3);
    }

    private void workAboveTwenty() {
        edges.names("TEXTS", "a digit by which it would be greater than 20 is not allowed),");
        fault("1:21", 3);
        fault("1:29", 3);
        for (int first = 3; first <= 9; first++) {
            fault("1:" + first + "0", 3);
        }
        fault("1:99", 3);
        for (int digit = 0; digit <= 9; digit++) {
            fault("1:20" + digit, 4);
            fault("1:10" + digit, 4);
            fault("1:2;1:2(1:19" + digit, 12);
        }
        fault("1:21;6", 3);
    }

    private void partsInBrackets() {
        edges.names("TEXTS", "and perhaps \"(\", one or more errands");
        sound("1:1", 1);
        sound("1:1(1:1)", 1);
        fault("1:1()", 4);
        fault("1:1((", 4);
        fault("1(1:1)", 1);
        fault("(1:1)", 0);
        fault("1:1(1:1)(1:1)", 8);
        sound("1:0(1:0,1:0,1:0,1:0,1:0,1:0,1:0,1:0,1:0,1:0,1:0,1:0,1:0)", 1);
        sound("1:1(1:1(1:1(1:1(1:1(1:1(1:1(1:1(1:1(1:1(1:1(1:1)))))))))))", 1);
    }

    private void betweenParts() {
        edges.names("TEXTS", "with \",\" between two (its parts),");
        sound("1:1(1:1,1:1)", 1);
        sound("1:1(1:1(1:1),1:1)", 1);
        fault("1:1(1:1;1:1)", 7);
        fault("1:1(1:1 1:1)", 7);
        fault("1:1(1:1,,1:1)", 8);
        fault("1:1(,1:1)", 4);
        fault("1:1(1:1,)", 8);
        fault("1:1(1:1(1:1);1:1)", 12);
        fault("1:1(1:1),1:1", 8);
    }

    private void closedParts() {
        edges.names("TEXTS", "and \")\".");
        fault("1:1)", 3);
        fault("1:1(1:1))", 8);
        fault("1:1(1:1", 7);
        fault("1:1(1:1(1:1)", 12);
        fault("1:1(1:1(1:1)))", 13);
        fault("1:1;1:1)", 7);
        sound("1:1(1:1(1:1))", 1);
        sound("1:1(1:1(1:1),1:1);1:1", 2);
    }

    private void oddCharacters() {
        edges.names("TEXTS", "that is not allowed at its place,");
        for (char odd : ODD) {
            fault("" + odd, 0);
            fault("1" + odd, 1);
            fault("1:" + odd, 2);
            fault("1:1" + odd, 3);
            fault("1:20" + odd, 4);
            fault("1:1(" + odd, 4);
            fault("1:1(1:1" + odd, 7);
            fault("1:1(1:1)" + odd, 8);
            fault("1:1;" + odd, 4);
        }
    }

    private void firstFault() {
        edges.names("TEXTS", "The fault of the text is the index, from 0, of the first character that is not allowed at its place,");
        fault("66", 0);
        fault("1:1;6:6", 4);
        fault("1:21;", 3);
        fault(FIFTEEN.substring(0, 59) + "x", 59);
        fault(FIFTEEN.substring(0, 56) + "5;0:", 57);
        fault("1:1(1:1;1:99(", 7);
    }

    private void endTooEarly() {
        edges.names("TEXTS", "or the length of the text if it ends too early");
        String text = "1:10(2:2,3:3(4:4));5:5";
        boolean[] whole = new boolean[text.length() + 1];
        for (int length : new int[] {3, 4, 18, 22}) {
            whole[length] = true;
        }
        for (int length = 0; length <= text.length(); length++) {
            if (whole[length]) {
                sound(text.substring(0, length), length == 22 ? 2 : 1);
            } else {
                fault(text.substring(0, length), length);
            }
        }
        fault("0:0(0:0(0:0(0:0(0:0(0:0(0:0(0:0(0:0(0:0(0:0(0:0(0:0(0:0(0:0(", 60);
        fault(FIFTEEN + ";", 60);
    }

    private void emptyText() {
        edges.names("TEXTS", "(the empty text does).");
        fault("", 0);
        CoinErrands x = Check.launched("1:1");
        x.clearText();
        edges.due("emptied", -100, x.launch());
    }

    private void typing() {
        edges.names("Promise 9", "Appends a character to the text.");
        edges.names("Promise 9", "Returns the length of the text then;");
        CoinErrands x = new CoinErrands();
        for (int length = 1; length <= 60; length++) {
            edges.due("type", length, x.type(FIFTEEN.concat(";").charAt(length - 1)));
            edges.due("length", length, x.total(16));
        }
        edges.due("no change", 0, x.total(15));
    }

    private void anyCharacter() {
        edges.names("Promise 9", "`character`: any character");
        for (char odd : ODD) {
            edges.due("type " + (int) odd, 1, new CoinErrands().type(odd));
        }
    }

    private void typeIntoFull() {
        edges.names("Promise 9", "FULL if it has 60 characters.");
        CoinErrands x = new CoinErrands();
        Check.type(x, FIFTEEN);
        edges.due("it has 59", 60, x.type('0'));
        Scene full = new Scene("a sound text of 60 characters", () -> {
            CoinErrands y = new CoinErrands();
            Check.type(y, "0:20;1:20;2:20;3:20;4:20;5:20;0:20;1:20;2:20;3:20;4:20;5:20");
            Check.retype(y, "0:1(1:1,2:1);0:1(1:1,2:1);0:1(1:1,2:1);0:1(1:1,2:1);0:1;0:10");
            return y;
        });
        edges.due("length", 60, full.make().total(16));
        for (char character : new char[] {'0', ';', ' ', (char) 0, (char) 0xffff}) {
            edges.refusedIn(full, "type " + (int) character, CoinErrands.FULL, y -> y.type(character));
            edges.refusedIn(Scene.CROWD, "type " + (int) character, CoinErrands.FULL, y -> y.type(character));
        }
        x.clearText();
        edges.due("there is room again", 1, x.type('0'));
    }

    private void clearing() {
        edges.names("Promise 10", "Empties the text.");
        edges.names("Promise 10", "Returns the length that it had.");
        CoinErrands x = new CoinErrands();
        edges.due("empty", 0, x.clearText());
        edges.due("still empty", 0, x.clearText());
        x.type('1');
        edges.due("the shortest", 1, x.clearText());
        edges.due("length", 0, x.total(16));
        Check.type(x, FIFTEEN + ";0:0");
        edges.due("the longest", 60, x.clearText());
        edges.due("empty again", 0, x.clearText());
        edges.due("no change", 0, x.total(15));
        Check.type(x, "1:1");
        edges.due("nothing of it stays", 1, x.planned(0));
    }

    private void plans(String text, int... want) {
        CoinErrands x = new CoinErrands();
        Check.type(x, text);
        for (int what = 0; what <= 3; what++) {
            edges.due("planned " + what + " of '" + text + "'", want[what], x.planned(what));
        }
    }

    private void plannedNumbers() {
        edges.names("Promise 22", "Tells something of the errands of the text.");
        edges.names("Promise 22", "`what`: 0 for how many there are, parts counted; 1 for all their work; 2 for the greatest depth (1 without parts); 3 for the greatest number of parts of one errand");
        plans("0:0", 1, 0, 1, 0);
        plans("0:20", 1, 20, 1, 0);
        plans("0:1(0:1)", 2, 2, 2, 1);
        plans("0:1;0:1(0:1(0:1),0:1);0:1", 6, 6, 3, 2);
        plans("0:1(0:1(0:1,0:1,0:1),0:1)", 6, 6, 3, 3);
        plans("0:1;1:1;2:1;3:1", 4, 4, 1, 0);
        plans(FIFTEEN, 15, 0, 1, 0);
        plans("0:20;1:20;2:20;3:20;4:20;5:20;0:20;1:20;2:20;3:20;4:20;5:20", 12, 240, 1, 0);
        plans("1:1(1:1(1:1(1:1(1:1(1:1(1:1(1:1(1:1(1:1(1:1(1:1)))))))))))", 12, 12, 12, 1);
        plans("1:0(1:0,1:0,1:0,1:0,1:0,1:0,1:0,1:0,1:0,1:0,1:0,1:0,1:0)", 14, 0, 2, 13);
        plans("0:1(0:1(0:1(0:1)));0:1(0:1,0:1)", 7, 7, 4, 2);
        CoinErrands x = Check.launched("0:9(0:9(0:9,0:9,0:9))");
        Check.retype(x, "0:1(0:1)");
        int[] want = {2, 2, 2, 1};
        for (int what = 0; what <= 3; what++) {
            edges.due("planned " + what + " after a greater text", want[what], x.planned(what));
        }
    }

    private void whatOfPlanned() {
        edges.names("Promise 22", "Returns the number; OUT_OF_RANGE;");
        for (int what : new int[] {-1, 4, Integer.MIN_VALUE, Integer.MAX_VALUE}) {
            edges.refused("planned(" + what + ")", CoinErrands.OUT_OF_RANGE, x -> x.planned(what));
        }
    }

    private void plannedOfAFault() {
        edges.names("Promise 22", "-100 minus the fault of the text if it has one (this is an error).");
        for (int number = 0; number <= 3; number++) {
            int what = number;
            edges.refusedIn(Scene.NEW, "planned of the empty text", -100, x -> x.planned(what));
            edges.refusedIn(Scene.CROWD, "planned of a fault at the end of 60", -159, x -> x.planned(what));
        }
    }
}
