import java.util.ArrayList;
import java.util.List;

/**
 * All that an object answers behind a run of calls: of itself, of its hours, its sights and what is
 * in its images. Much of that can only be seen by changing it, so each look is at an object of its own.
 */
final class Witness {
    /** Yards by which the sights are told apart: all alone, all together, and by twos and threes. */
    private static final String[] STREETS = {"012345", "000000", "001122", "012012", "010101", "000111", "011223"};

    private final List<Call> history;
    private final List<String> answers = new ArrayList<>();
    private OathPermit x = null;

    private Witness(List<Call> history) {
        this.history = history;
    }

    static List<String> look(List<Call> history) {
        Witness witness = new Witness(history);
        for (int image = -1; image <= 1; image++) {
            witness.begin(image);
            witness.askAll();
            witness.askBehindHours();
            witness.begin(image);
            witness.askSights();
        }
        return witness.answers;
    }

    private void begin(int image) {
        x = new OathPermit();
        for (Call call : history) {
            call.on(x);
        }
        if (image >= 0) {
            ask("restore " + image);
        }
    }

    private void ask(String text) {
        answers.add(text + " = " + new Call(text).on(x));
    }

    private void ask(String text, int least, int most) {
        for (int what = least; what <= most; what++) {
            ask(text + " " + what);
        }
    }

    private void askAll() {
        ask("told", 0, 4);
        ask("fault");
        ask("judge", 0, 2);
        ask("slipped", 0, 3);
        ask("hears", 0, 5);
        for (int one = 0; one < 6; one++) {
            ask("told", 10 + 10 * one, 15 + 10 * one);
            ask("behind " + one, 0, 4);
        }
        ask("who");
        ask("ask", 0, 1);
        ask("year 7 99", 0, 2);
    }

    private void askBehindHours() {
        ask("done");
        for (int one = 0; one < 6; one++) {
            ask("told", 10 + 10 * one, 15 + 10 * one);
        }
        ask("say 46");
        ask("wipe");
        ask("say 46");
        ask("fault");
        ask("done");
    }

    private void askSights() {
        ask("set 1 0");
        for (String street : STREETS) {
            for (int one = 0; one < 6; one++) {
                ask("one " + one + " 0 0 0 " + street.charAt(one));
            }
            ask("who");
        }
        ask("seen 0 true");
        ask("forget");
        ask("who");
    }
}
