import java.util.List;
import java.util.function.ToIntFunction;

/** Answers that hold a sentence of the document, which a test names first. */
final class Edges {
    private final Check check = new Check();
    private final Document document;
    private String sentence = "";

    Edges(Document document) {
        this.document = document;
    }

    /** The answers from here on hold these words of this section. */
    void names(String section, String words) {
        sentence = section + ", \"" + words + "\": ";
        due("stands in the document", 1, document.name(section, words) ? 1 : 0);
    }

    void due(String call, long want, long got) {
        check.due(sentence + call, want, got);
    }

    /** The call has this answer in every scene, and changes nothing. */
    void refused(String call, int want, ToIntFunction<CoinErrands> how) {
        for (Scene scene : Scene.ALL) {
            refusedIn(scene, call, want, how);
        }
    }

    /** The call has this answer in this scene, and all that can be seen then and later on is as it would be without the call. */
    void refusedIn(Scene scene, String call, int want, ToIntFunction<CoinErrands> how) {
        for (int later = 0; later < Scene.laters(); later++) {
            CoinErrands x = scene.make();
            due(call + " in " + scene.name(), want, how.applyAsInt(x));
            same(call + " in " + scene.name() + " changes nothing", scene.untouched(later), Scene.look(x, later));
        }
    }

    void same(String what, String want, String got) {
        boolean same = want.equals(got);
        due(same ? what : what + " (" + Scene.firstDifference(got, want) + ")", 1, same ? 1 : 0);
    }

    /** Each word of the terms and the promises is named by a test, so that no sentence goes without one. */
    void allIsNamed() {
        sentence = "";
        for (String section : document.sections()) {
            List<String> unnamed = document.unnamed(section);
            boolean bound = section.startsWith("Promise") || section.matches("[A-Z, ]+");
            due("words without a test in " + section + ": " + unnamed, 0, bound ? unnamed.size() : 0);
        }
    }

    void end() {
        check.end();
    }
}
