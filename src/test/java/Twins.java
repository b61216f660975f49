import java.util.ArrayList;
import java.util.List;

/**
 * Whether two ways to lead a new object come to the same: all that can be asked is asked of both. An object is good
 * for 512 calls, so each part of the questions gets objects of its own.
 */
final class Twins {
    private static final int PARTS = 6;

    interface Lead {
        void on(OneEye x);
    }

    private final OneEye x;
    private final List<Integer> answers = new ArrayList<>();

    private Twins(Lead lead) {
        x = new OneEye();
        lead.on(x);
    }

    /** A call that is refused changes nothing: led alike, with it and without it, two objects are alike. */
    static void unchanged(Check check, Lead lead, Lead refused) {
        alike(check, lead, y -> {
            lead.on(y);
            refused.on(y);
        });
    }

    static void alike(Check check, Lead one, Lead other) {
        for (int part = 0; part < PARTS; part++) {
            List<Integer> due = answers(one, part);
            List<Integer> got = answers(other, part);
            int first = 0;
            while (first < due.size() && due.get(first).equals(got.get(first))) {
                first++;
            }
            check.due("part " + part + ", the first question with an unlike answer", first, due.size());
        }
    }

    private static List<Integer> answers(Lead lead, int part) {
        Twins asked = new Twins(lead);
        switch (part) {
            case 0 -> asked.whatIs();
            case 1 -> asked.thoughts();
            case 2 -> asked.origins(0);
            case 3 -> asked.origins(2);
            case 4 -> asked.tape();
            default -> asked.whatGoesOn();
        }
        return asked.answers;
    }

    private void keep(int answer) {
        answers.add(answer);
    }

    private void whatIs() {
        for (int what = 0; what < 20; what++) {
            keep(x.look(what));
        }
        for (int t = 0; t < 4; t++) {
            for (int what = 0; what < 8; what++) {
                keep(x.of(t, what));
            }
            for (int thing = 0; thing < 3; thing++) {
                keep(x.where(t, thing));
            }
        }
        for (int p = 0; p < 12; p++) {
            keep(x.heard(p));
            for (int thing = 0; thing < 3; thing++) {
                keep(x.held(p, thing));
            }
            for (int f = 0; f < 10; f++) {
                keep(x.knows(p, f));
            }
        }
        keep(x.fault(0));
        keep(x.fault(1));
    }

    private void thoughts() {
        for (int i = 0; i < 20; i++) {
            for (int what = 0; what < 5; what++) {
                keep(x.book(i, what));
            }
        }
        for (int pair = 0; pair < 16; pair++) {
            for (int f = 1; f < 3; f++) {
                keep(x.errand(pair / 4, f, pair % 4, 0));
                keep(x.errand(pair / 4, f, pair % 4, 1));
                keep(x.talk(pair / 4, pair % 4, f));
            }
        }
        for (int i = 0; i < 12; i++) {
            keep(x.way(i + 1, 0, 0));
            keep(x.way(i + 1, 2, 10 + i));
            keep(x.way(12, 1, 10 + i));
        }
        for (int i = 0; i < 9; i++) {
            keep(x.watches(10 + i));
        }
        keep(x.watches(0));
        keep(x.felt());
        keep(x.liars());
        keep(x.ring());
    }

    private void origins(int firstWhat) {
        for (int p = 0; p < 12; p++) {
            for (int f = 0; f < 10; f++) {
                keep(x.origin(p, f, firstWhat));
                keep(x.origin(p, f, firstWhat + 1));
            }
        }
    }

    private void tape() {
        int word = Check.word("see ", 0);
        keep(x.feed(word, Check.word("1;  ", 0), word, word, word));
        keep(x.text(0));
        keep(x.fault(0));
        keep(x.fault(1));
        keep(x.of(0, 4));
        keep(x.feed(word, word, word, word, word));
    }

    /** What is told for later shows later: PLANS, NOISES, TRUST, STATE, and THE IMAGE. */
    private void whatGoesOn() {
        for (int i = 0; i < 8; i++) {
            keep(x.minutes(1));
            keep(x.look(4));
            for (int t = 0; t < 4; t++) {
                keep(x.of(t, 6));
                keep(x.of(t, 7));
                keep(x.where(t, i % 3));
            }
        }
        x.end(0);
        for (int t = 0; t < 4; t++) {
            keep(Check.plan(x, t, "see 1;lie 1 to 0;lie 1 to 1;lie 1 to 2;"));
        }
        keep(x.minutes(20));
        for (int p = 0; p < 12; p++) {
            keep(x.knows(p, 1));
            keep(x.origin(p, 1, 0));
            keep(x.heard(p));
        }
        keep(x.look(2));
        keep(x.watch(3));
        keep(x.noise(99999));
        keep(x.image(false) ? 1 : 0);
        for (int what = 0; what < 20; what++) {
            keep(x.look(what));
        }
        keep(x.minutes(30));
        keep(x.look(2));
        keep(x.look(4));
    }

    /** Much is told and much goes on: a hand-over, a rest, things that fell, sayings, an image, half a text. */
    static void busy(OneEye x) {
        x.state(77);
        x.three(4, 0);
        x.three(2, 400);
        x.three(1, 1000);
        x.fact(1, true);
        x.trust(0, 1, false);
        x.noise(3);
        x.noise(12);
        Check.plan(x, 0, "see 1;say 1 to 1;say 1 to 2;give ear 1;give eye 2;see 2;");
        Check.plan(x, 1, "see 2;lie 1 to 0;lie 2 to 2;rest 40;see 3;");
        Check.plan(x, 2, "give eye 1;lie 1 to 2;give mouth 2;feel eye 4;");
        x.danger(0, 0, 0, 4);
        x.danger(3, 1, 2, 7);
        x.danger(11, 2, 1, 9);
        x.spot(0, 20, 3);
        x.spot(8, 7, 2);
        x.watch(7);
        x.watch(5);
        x.lends(0, 0, 1, true);
        x.lends(2, 1, 0, true);
        x.minutes(2);
        x.image(true);
        x.minutes(3);
        Check.plan(x, 1, "see 77;");
        Check.feed(x, "see 3;say 3");
    }

    static void busyWithFour(OneEye x) {
        busy(x);
        x.three(9, 9);
    }
}
