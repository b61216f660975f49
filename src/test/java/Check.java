/** Counts answers that are not as due, and tells plans as texts. */
final class Check {
    private int wrong = 0;
    private int done = 0;
    private String about = "";

    void about(String what) {
        about = what;
    }

    void due(String call, long got, long want) {
        done++;
        if (got != want) {
            wrong++;
            if (wrong <= 40) {
                System.out.println(about + ": " + call + " answered " + got + ", due is " + want);
            }
        }
    }

    void due(String call, boolean got, boolean want) {
        due(call, got ? 1 : 0, want ? 1 : 0);
    }

    int done() {
        return done;
    }

    boolean anyWrong() {
        return wrong > 0;
    }

    void finish() {
        System.out.println(done + " answers looked at, " + wrong + " not as due");
        if (wrong > 0 || done == 0) {
            System.exit(1);
        }
    }

    /** Feeds a text whose signs are 0 to 255; the TAPE must be empty. */
    static void feed(OneEye x, String text) {
        for (int at = 0; at < text.length(); at += 20) {
            x.feed(word(text, at), word(text, at + 4), word(text, at + 8), word(text, at + 12), word(text, at + 16));
        }
        x.end(text.length());
    }

    static int plan(OneEye x, int three, String text) {
        feed(x, text);
        return x.text(three);
    }

    static int word(String text, int at) {
        int word = 0;
        for (int i = at; i < at + 4; i++) {
            word = word << 8 | (i < text.length() ? text.charAt(i) : ' ');
        }
        return word;
    }
}
