import java.util.LinkedHashMap;
import java.util.Map;
import java.util.function.ToIntFunction;

/** HISTORY, ERRORS and the promises 11 to 13 at their edges. */
final class HistoryEdges {
    private final Edges edges;

    HistoryEdges(Edges edges) {
        this.edges = edges;
    }

    void look() {
        fourStates();
        changesAreRecorded();
        changesOfEachMethod();
        whatIsNoChange();
        theOldestIsDropped();
        snapshotIsEmpty();
        whatTheStateIs();
        constants();
        firstError();
        noneIsNoError();
        scenesAreFull();
        nothingChanges();
        undoGoesBack();
        undoOfNothing();
        keepInPlace();
        restoreStays();
        restoreOfNothing();
    }

    private void fourStates() {
        edges.names("HISTORY", "A history of at most 4 states is kept.");
        CoinErrands x = new CoinErrands();
        for (int changes = 1; changes <= 9; changes++) {
            x.pass(1);
            edges.due("states after " + changes, Math.min(changes, 4), x.total(15));
        }
        for (int left = 3; left >= 0; left--) {
            edges.due("undo", left, x.undo());
            edges.due("states", left, x.total(15));
        }
        edges.due("a fifth undo", CoinErrands.NONE, x.undo());
    }

    private static Map<String, ToIntFunction<CoinErrands>> changes() {
        Map<String, ToIntFunction<CoinErrands>> all = new LinkedHashMap<>();
        all.put("Promise 2", x -> x.setTime(2, 3, 9));
        all.put("Promise 3", x -> x.setBankTime(3, 9));
        all.put("Promise 4", x -> x.set(0, 9));
        all.put("Promise 5", CoinErrands::launch);
        all.put("Promise 6", x -> x.pass(1));
        all.put("Promise 7", x -> x.lose(0));
        all.put("Promise 8", CoinErrands::makeGood);
        all.put("Promise 13", CoinErrands::restore);
        return all;
    }

    private void changesAreRecorded() {
        edges.names("HISTORY", "Each call of a method that is described as a change, and that returns neither an error nor NONE, records the state before it;");
        CoinErrands x = Check.launched("1:1");
        x.keep();
        int want = 1;
        edges.due("a change", want, x.total(15));
        edges.due("the same state is recorded too", 0, x.restore());
        edges.due("states", 2, x.total(15));
        edges.due("undo", 1, x.undo());
        edges.due("undo", 0, x.undo());
        edges.due("nothing on its way", 0, x.total(6));
    }

    private void changesOfEachMethod() {
        for (Map.Entry<String, ToIntFunction<CoinErrands>> change : changes().entrySet()) {
            edges.names(change.getKey(), "This is a change.");
            CoinErrands x = Scene.MIDDLE.make();
            edges.due("a full history", 4, x.total(15));
            x.undo();
            String before = Scene.look(x);
            edges.due("no error", 1, change.getValue().applyAsInt(x) >= 0 ? 1 : 0);
            edges.due("one state more", 4, x.total(15));
            edges.due("another state", 0, Scene.look(x).equals(before) ? 1 : 0);
            edges.due("undo", 3, x.undo());
            edges.same("undo brings all back", before, Scene.look(x));
        }
    }

    private void whatIsNoChange() {
        edges.names("HISTORY", "that is described as a change,");
        CoinErrands x = Check.launched("1:1");
        x.type(';');
        x.clearText();
        x.keep();
        Scene.look(x);
        edges.due("only the launch is recorded", 1, x.total(15));
        x.undo();
        edges.due("undo is not recorded", 0, x.total(15));
    }

    private void theOldestIsDropped() {
        edges.names("HISTORY", "if there are 4 already, the oldest one is dropped.");
        CoinErrands x = new CoinErrands();
        for (int ticks = 1; ticks <= 4; ticks++) {
            x.pass(ticks);
        }
        for (int i = 0; i < 4; i++) {
            x.undo();
        }
        edges.due("with 4 changes the first state is there", 0, x.total(0));
        for (int ticks = 1; ticks <= 5; ticks++) {
            x.pass(ticks);
        }
        int[] times = {10, 6, 3, 1, 1};
        for (int time : times) {
            x.undo();
            edges.due("with 5 the second one is the oldest", time, x.total(0));
        }
        for (int ticks = 1; ticks <= 11; ticks++) {
            x.pass(1);
        }
        for (int i = 0; i < 4; i++) {
            x.undo();
        }
        edges.due("the four latest after many", 8, x.total(0));
    }

    private void snapshotIsEmpty() {
        edges.names("HISTORY", "There is one snapshot, empty at first.");
        edges.due("restore", CoinErrands.NONE, new CoinErrands().restore());
        CoinErrands x = new CoinErrands();
        x.keep();
        x.pass(1);
        x.keep();
        edges.due("the second one", 1, x.restore());
        edges.due("there is no other one", 1, x.restore());
    }

    private void whatTheStateIs() {
        edges.names("HISTORY", "The state is everything except the text, the history and the snapshot.");
        String before = Scene.look(Scene.MIDDLE.make());
        CoinErrands y = Scene.MIDDLE.make();
        y.keep();
        y.lose(0);
        y.makeGood();
        y.pass(50);
        y.set(0, 16);
        y.setTime(4, 5, 9);
        y.setBankTime(5, 9);
        y.restore();
        edges.same("all is restored", before, Scene.look(y));
        edges.due("asks of house 0", 2, y.house(0, 7));
        edges.due("what is lost too", 4, y.makeGood());
        edges.due("and its ask that is lost", 3, y.house(0, 7));
        y.undo();
        edges.due("lost again", 4, y.makeGood());
        edges.due("and its ask", 3, y.house(0, 7));
        y.type('x');
        y.undo();
        edges.due("undo leaves the text", 45, y.total(16));
        edges.due("restore", 6, y.restore());
        edges.due("restore leaves the text", 45, y.total(16));
        edges.due("restore leaves the history", 4, y.total(15));
        y = new CoinErrands();
        y.pass(3);
        y.keep();
        y.undo();
        edges.due("undo leaves the snapshot", 3, y.restore());
        y.undo();
        edges.due("and restore too", 3, y.restore());
    }

    private void constants() {
        edges.names("ERRORS", "Errors are reported by the constants below.");
        edges.names("ERRORS", "The constants: `UNKNOWN = -1`: There is no such house, message or setting.");
        edges.due("UNKNOWN", -1, CoinErrands.UNKNOWN);
        edges.due("a house", -1, new CoinErrands().bankTime(6));
        edges.due("a message", -1, new CoinErrands().lose(0));
        edges.due("a setting", -1, new CoinErrands().set(2, 2));
        edges.names("ERRORS", "`OUT_OF_RANGE = -2`: Another argument is out of its range.");
        edges.due("OUT_OF_RANGE", -2, CoinErrands.OUT_OF_RANGE);
        edges.due("ticks", -2, new CoinErrands().pass(0));
        edges.names("ERRORS", "`FULL = -3`: There is no more room.");
        edges.due("FULL", -3, CoinErrands.FULL);
        edges.due("a text", -3, Scene.CROWD.make().type('0'));
        edges.names("ERRORS", "`NONE = -5`: There is no such thing; this is not an error.");
        edges.due("NONE", -5, CoinErrands.NONE);
        edges.due("a state", -5, new CoinErrands().undo());
    }

    private void firstError() {
        edges.names("ERRORS", "If several errors apply, the one that stands first in the @return line is returned.");
        edges.refused("setTime: a house and ticks", CoinErrands.UNKNOWN, x -> x.setTime(0, 6, 10));
        edges.refused("setTime: both are the same, but no house", CoinErrands.UNKNOWN, x -> x.setTime(-1, -1, 5));
        edges.refused("setTime: all", CoinErrands.UNKNOWN, x -> x.setTime(6, 6, 0));
        edges.refused("setBankTime: a house and ticks", CoinErrands.UNKNOWN, x -> x.setBankTime(6, 0));
        edges.refused("set: a setting and a value", CoinErrands.UNKNOWN, x -> x.set(2, 0));
        edges.refused("house: a house and what", CoinErrands.UNKNOWN, x -> x.house(6, 9));
        edges.refused("waiting: a house, place and what", CoinErrands.UNKNOWN, x -> x.waiting(-1, -1, 4));
        edges.refused("waiting: place and what", CoinErrands.OUT_OF_RANGE, x -> x.waiting(0, -1, 4));
        edges.refused("message: rank and what", CoinErrands.OUT_OF_RANGE, x -> x.message(-1, 7));
        edges.refusedIn(Scene.NEW, "planned: what and a fault", CoinErrands.OUT_OF_RANGE, x -> x.planned(4));
        edges.refusedIn(Scene.CROWD, "planned: what and a fault", CoinErrands.OUT_OF_RANGE, x -> x.planned(-1));
        edges.refusedIn(Scene.CROWD, "launch: a fault and no room", -159, CoinErrands::launch);
        edges.refusedIn(Scene.NEW, "lose: rank is negative and there are not so many", CoinErrands.OUT_OF_RANGE, x -> x.lose(-1));
    }

    private void noneIsNoError() {
        edges.names("ERRORS", "NONE is not an error; it is returned only if no error applies.");
        edges.refusedIn(Scene.NEW, "setTime of a house to itself as it is", CoinErrands.OUT_OF_RANGE, x -> x.setTime(2, 2, 1));
        edges.refusedIn(Scene.NEW, "waiting: what, and not so many", CoinErrands.OUT_OF_RANGE, x -> x.waiting(0, 0, 4));
        edges.refusedIn(Scene.NEW, "waiting: no house, and not so many", CoinErrands.UNKNOWN, x -> x.waiting(6, 0, 0));
        edges.refusedIn(Scene.NEW, "message: what, and not so many", CoinErrands.OUT_OF_RANGE, x -> x.message(0, 7));
        edges.refusedIn(Scene.NEW, "message: what is negative, and not so many", CoinErrands.OUT_OF_RANGE, x -> x.message(0, -1));
        edges.refusedIn(Scene.CROWD, "leastCoin: a fault, whatever would be", -159, CoinErrands::leastCoin);
    }

    /** Refused calls are tried where a change would show: these scenes have what their words say. */
    private void scenesAreFull() {
        edges.names("ERRORS", "A method that returns an error or NONE changes nothing.");
        CoinErrands x = Scene.MIDDLE.make();
        int kinds = 0;
        for (int rank = 0; rank < x.total(6); rank++) {
            kinds |= 1 << x.message(rank, 0);
        }
        edges.due("messages of all four kinds", 15, kinds);
        edges.due("errands wait", 2, x.house(0, 3));
        edges.due("grains are lost", 4, x.total(5));
        edges.due("two messages are lost", 2, x.total(10));
        edges.due("a lost ask is out", 1, x.house(0, 4));
        edges.due("a full history", 4, x.total(15));
        edges.due("time", 6, x.total(0));
        edges.due("a snapshot of another time", 3, x.restore());
        x = Scene.CROWD.make();
        edges.due("a full text", 60, x.total(16));
        edges.due("a full history", 4, x.total(15));
        Check.retype(x, "0:0");
        edges.due("no room for errands", CoinErrands.FULL, x.launch());
    }

    private void nothingChanges() {
        edges.names("ERRORS", "A method that returns an error or NONE changes nothing.");
        Scene none = new Scene("a history that was taken back", () -> {
            CoinErrands x = Scene.MIDDLE.make();
            for (int i = 0; i < 4; i++) {
                x.undo();
            }
            return x;
        });
        edges.refusedIn(none, "undo", CoinErrands.NONE, CoinErrands::undo);
        edges.refusedIn(none, "set as it is", CoinErrands.NONE, x -> x.set(1, 3));
        edges.refusedIn(none, "pass 0", CoinErrands.OUT_OF_RANGE, x -> x.pass(0));
        edges.refusedIn(none, "lose too much", CoinErrands.UNKNOWN, x -> x.lose(99));
        edges.refusedIn(Scene.CROWD, "restore", CoinErrands.NONE, CoinErrands::restore);
        edges.refusedIn(Scene.CROWD, "type", CoinErrands.FULL, x -> x.type('0'));
        edges.refusedIn(Scene.CROWD, "launch", -159, CoinErrands::launch);
    }

    private void undoGoesBack() {
        edges.names("Promise 11", "Restores the latest state of the history, and removes it from there.");
        edges.names("Promise 11", "Returns how many states are left;");
        CoinErrands x = new CoinErrands();
        x.pass(1);
        edges.due("the only one", 0, x.undo());
        edges.due("time", 0, x.total(0));
        x.pass(2);
        x.pass(3);
        x.pass(4);
        x.pass(5);
        edges.due("of four", 3, x.undo());
        edges.due("time", 9, x.total(0));
        edges.due("of three", 2, x.undo());
        edges.due("time", 5, x.total(0));
        x.pass(1);
        edges.due("a new one in its place", 2, x.undo());
        edges.due("time", 5, x.total(0));
        edges.due("of two", 1, x.undo());
        edges.due("time", 2, x.total(0));
    }

    private void undoOfNothing() {
        edges.names("Promise 11", "NONE if the history is empty.");
        edges.refusedIn(Scene.NEW, "undo", CoinErrands.NONE, CoinErrands::undo);
        Scene undone = new Scene("a run that was undone", () -> {
            CoinErrands x = Check.launched("1:1");
            x.keep();
            x.undo();
            return x;
        });
        edges.refusedIn(undone, "undo", CoinErrands.NONE, CoinErrands::undo);
        Scene kept = new Scene("a snapshot alone", () -> {
            CoinErrands x = new CoinErrands();
            x.keep();
            return x;
        });
        edges.refusedIn(kept, "undo", CoinErrands.NONE, CoinErrands::undo);
    }

    private void keepInPlace() {
        edges.names("Promise 12", "Takes a snapshot of the state, in place of an earlier one.");
        edges.names("Promise 12", "Returns the time.");
        CoinErrands x = new CoinErrands();
        edges.due("at first", 0, x.keep());
        edges.due("again", 0, x.keep());
        x.pass(100);
        edges.due("later", 100, x.keep());
        edges.due("no change", 1, x.total(15));
        x.undo();
        edges.due("earlier than the one before", 0, x.keep());
        x.pass(7);
        edges.due("the last one counts", 0, x.restore());
    }

    private void restoreStays() {
        edges.names("Promise 13", "Restores the state of the snapshot, which stays.");
        edges.names("Promise 13", "Returns the time then;");
        CoinErrands x = Check.launched("1:5(2:2)");
        x.pass(1);
        x.pass(1);
        x.pass(1);
        edges.due("keep", 3, x.keep());
        String before = Scene.look(x);
        for (int i = 0; i < 3; i++) {
            x.pass(10);
            x.lose(0);
            edges.due("restore", 3, x.restore());
            edges.same("as it was kept", before, Scene.look(x));
            edges.due("restore again", 3, x.restore());
            edges.same("as it was kept", before, Scene.look(x));
        }
        x.undo();
        x.undo();
        edges.due("undo goes back before restore", 13, x.total(0));
        edges.due("the snapshot is there", 3, x.restore());
    }

    private void restoreOfNothing() {
        edges.names("Promise 13", "NONE if there is no snapshot.");
        edges.refusedIn(Scene.NEW, "restore", CoinErrands.NONE, CoinErrands::restore);
        edges.refusedIn(Scene.CROWD, "restore", CoinErrands.NONE, CoinErrands::restore);
        CoinErrands x = new CoinErrands();
        x.pass(4);
        x.undo();
        edges.due("the history is no snapshot", CoinErrands.NONE, x.restore());
    }
}
