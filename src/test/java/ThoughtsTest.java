/** ERRANDS and TALKS from every state that there can be, held against the Model's searches. */
public final class ThoughtsTest {
    private static final String[] THINGS = {"eye", "ear", "mouth"};
    private static final Check check = new Check();

    public static void main(String[] args) {
        errands();
        talks();
        check.finish();
    }

    private static void errands() {
        for (int hand = 1; hand <= 9; hand++) {
            for (int places = 0; places < 27; places++) {
                for (int knowers = 0; knowers < 8; knowers++) {
                    for (int other = 0; other < 9; other++) {
                        if (other > 2 && hand > 1) {
                            continue;
                        }
                        errand(hand, places, knowers, other);
                    }
                }
            }
        }
    }

    /** The other THREE: one of it KNOWS the FACT (or none), one has the EAR. */
    private static void errand(int hand, int places, int knowers, int other) {
        OneEye x = new OneEye();
        Model y = new Model();
        x.three(hand, 0);
        y.three(hand, 0);
        x.three(1, 0);
        y.three(1, 0);
        tell(x, y, 0, plan(knowers, places));
        tell(x, y, 1, plan(other % 3 == 0 ? 0 : other % 3 == 1 ? 1 : 6, 3 * (other / 3)));
        x.minutes(110);
        y.minutes(110);
        check.about("hand " + hand + ", places " + places + ", knowers " + knowers + ", other " + other);
        check.due("errand, minutes", x.errand(0, 4, 1, 0), y.errand(0, 4, 1, 0));
        check.due("errand, hand-overs", x.errand(0, 4, 1, 1), y.errand(0, 4, 1, 1));
    }

    private static void talks() {
        for (int places = 0; places < 81; places++) {
            for (int knowers = 0; knowers < 64; knowers++) {
                OneEye x = new OneEye();
                Model y = new Model();
                x.three(1, 0);
                y.three(1, 0);
                x.three(1, 0);
                y.three(1, 0);
                tell(x, y, 0, plan(knowers % 8, places / 9));
                tell(x, y, 1, plan(knowers / 8, places % 9));
                x.minutes(20);
                y.minutes(20);
                check.about("places " + places + ", knowers " + knowers);
                check.due("talk", x.talk(0, 1, 4), y.talk(0, 1, 4));
            }
        }
    }

    private static void tell(OneEye x, Model y, int three, String text) {
        Check.feed(x, text);
        x.text(three);
        for (int at = 0; at < text.length(); at += 20) {
            y.feed(Check.word(text, at), Check.word(text, at + 4), Check.word(text, at + 8), Check.word(text, at + 12),
                Check.word(text, at + 16));
        }
        y.end(text.length());
        y.text(three);
    }

    /** By which the knowers see FACT 4, then each THING goes to its place. */
    private static String plan(int knowers, int places) {
        StringBuilder text = new StringBuilder();
        for (int m = 0; m < 3; m++) {
            if ((knowers >> m & 1) == 1) {
                text.append("give eye ").append(m).append(";see 4;");
            }
        }
        for (int thing = 0; thing < 3; thing++) {
            int member = places / (thing == 0 ? 9 : thing == 1 ? 3 : 1) % 3;
            text.append("give ").append(THINGS[thing]).append(' ').append(member).append(';');
        }
        return text.toString();
    }
}
