import java.util.ArrayList;
import java.util.HashMap;
import java.util.List;
import java.util.Map;

/**
 * Runs of calls written as text. A line (or, behind "; ", a part of one) is a call's name, its
 * arguments and, behind "=", the answer that is due: "one 0 5 3 40 0 = 1". Besides:
 * <pre>
 * new              takes a new object
 * pad TEXT         wipes the pad and says these signs
 * still CALL = V   so the call is answered, and no call behind it can tell that it was made
 * each CALL A B = V       the call with each last number from A to B
 * stand TEXT = SIGNS      behind TEXT ("nothing": on an empty pad) just these signs can stand
 * constant NAME = V       a constant of the class
 * begin NAME       the lines that were kept under that name
 * keep, same       remembers all that the object tells of itself; asks it again
 * </pre>
 */
final class Script {
    private static final Map<String, String> KEPT_LINES = new HashMap<>();

    private final Due due;
    private OathPermit x = new OathPermit();
    private final List<Call> history = new ArrayList<>();
    private List<Long> kept = new ArrayList<>();

    Script(Due due) {
        this.due = due;
    }

    static void keepLines(String name, String text) {
        KEPT_LINES.put(name, text);
    }

    void run(String title, String text) {
        for (String line : text.split("\n")) {
            String bare = line.strip();
            if (!bare.isEmpty() && !bare.startsWith("#")) {
                for (String part : bare.split("; ")) {
                    obey(title, part.strip());
                }
            }
        }
        due.holds(title + ": at most 512 calls", history.size() <= 512);
    }

    private void obey(String title, String line) {
        int space = line.indexOf(' ');
        String rest = space < 0 ? "" : line.substring(space + 1).strip();
        switch (space < 0 ? line : line.substring(0, space)) {
            case "new":
                x = new OathPermit();
                history.clear();
                break;
            case "pad":
                pad(title, rest);
                break;
            case "still":
                still(title, rest);
                break;
            case "each":
                each(title, rest);
                break;
            case "stand":
                stand(title, rest);
                break;
            case "constant":
                constant(title, rest);
                break;
            case "begin":
                run(title, KEPT_LINES.get(rest));
                break;
            case "keep":
                kept = all();
                break;
            case "same":
                due.holds(title + ": all is as it was kept", kept.equals(all()));
                break;
            default:
                call(title, line);
                break;
        }
    }

    private static String left(String line) {
        return line.substring(0, line.lastIndexOf(" = ")).strip();
    }

    private static String right(String line) {
        return line.substring(line.lastIndexOf(" = ") + 3).strip();
    }

    private void call(String title, String line) {
        ask(title, new Call(left(line)), Call.number(right(line)));
    }

    private void ask(String title, Call call, long want) {
        history.add(call);
        try {
            due.is(title + ": " + call, call.on(x), want);
        } catch (IllegalStateException e) {
            due.holds(title + ": " + e.getMessage(), false);
        }
    }

    private void pad(String title, String text) {
        Call wipe = new Call("wipe");
        history.add(wipe);
        wipe.on(x);
        for (int i = 0; i < text.length(); i++) {
            ask(title + ": pad " + text, new Call("say " + (int) text.charAt(i)), i + 1);
        }
    }

    private void still(String title, String line) {
        List<String> before = Witness.look(history);
        call(title, line);
        List<String> after = Witness.look(history);
        for (int i = 0; i < before.size() && i < after.size(); i++) {
            due.holds(title + ": behind " + line + ": " + before.get(i) + ", now " + after.get(i),
                    before.get(i).equals(after.get(i)));
        }
    }

    private void each(String title, String line) {
        String[] words = left(line).split(" +");
        StringBuilder start = new StringBuilder();
        for (int i = 0; i < words.length - 2; i++) {
            start.append(words[i]).append(' ');
        }
        for (long v = Call.number(words[words.length - 2]); v <= Call.number(words[words.length - 1]); v++) {
            ask(title, new Call(start + "" + v), Call.number(right(line)));
        }
    }

    /** Each of the 94 signs on an object of its own: it is said, and is THE FAULT if it can not stand. */
    private void stand(String title, String line) {
        String text = left(line).equals("nothing") ? "" : left(line);
        for (char sign = 33; sign <= 126; sign++) {
            OathPermit other = new OathPermit();
            for (int i = 0; i < text.length(); i++) {
                other.say(text.charAt(i));
            }
            String what = title + ": behind " + text + " the sign " + sign;
            due.is(what, other.say(sign), text.length() + 1);
            boolean can = right(line).indexOf(sign) >= 0;
            due.holds(what + (can ? " can stand" : " can not stand"), can == (other.fault() != text.length()));
        }
    }

    private void constant(String title, String line) {
        try {
            long got = ((Number) OathPermit.class.getField(left(line)).get(null)).longValue();
            due.is(title + ": " + left(line), got, Long.parseLong(right(line)));
        } catch (ReflectiveOperationException e) {
            due.holds(title + ": there is a constant " + left(line), false);
        }
    }

    private List<Long> all() {
        List<Long> list = new ArrayList<>();
        for (int what = 0; what < 66; what++) {
            list.add((long) x.told(what));
        }
        list.add((long) x.fault());
        list.add((long) x.who());
        for (int what = 0; what < 3; what++) {
            list.add((long) x.judge(what));
        }
        return list;
    }
}
