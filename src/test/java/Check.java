/** Compares answers with those that are due, and counts the wrong ones. */
final class Check {
    private int wrong;
    private int looked;

    void due(String call, long want, long got) {
        looked++;
        if (want != got) {
            wrong++;
            System.out.println(call + " answered " + got + ", due is " + want);
        }
    }

    /** Prints how it went; a wrong answer ends the machine with code 1. */
    void end() {
        System.out.println(looked + " answers looked at, " + wrong + " wrong");
        if (wrong > 0 || looked == 0) {
            System.exit(1);
        }
    }

    static void type(CoinErrands x, String text) {
        for (int i = 0; i < text.length(); i++) {
            x.type(text.charAt(i));
        }
    }

    static void retype(CoinErrands x, String text) {
        x.clearText();
        type(x, text);
    }

    static CoinErrands launched(String text) {
        CoinErrands x = new CoinErrands();
        type(x, text);
        x.launch();
        return x;
    }
}
