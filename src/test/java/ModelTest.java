import java.util.Random;

/** Runs of drawn calls (always the same ones) on OathPermit and on Model side by side. */
public final class ModelTest {
    private static final int RUNS = 1500;
    private static final int CALLS = 512;
    private static final String LETTERS = "ABCDEF";

    private final Random draws;
    private final OathPermit x = new OathPermit();
    private final Model m = new Model();
    private final Due due;
    private final int run;
    private int calls = 0;

    private ModelTest(int run, Due due) {
        this.run = run;
        this.due = due;
        this.draws = new Random(run);
    }

    public static void main(String[] args) {
        Due due = new Due();
        for (int run = 0; run < RUNS && due.wrong() == 0; run++) {
            new ModelTest(run, due).go();
        }
        due.finish();
    }

    private void go() {
        int people = draws.nextInt(7);
        for (int i = 0; i < people; i++) {
            settle(draws.nextInt(6));
        }
        while (calls < CALLS - 70 && due.wrong() == 0) {
            step();
        }
        for (int what = -1; what < 71 && calls < CALLS; what++) {
            told(what);
        }
    }

    private void check(String call, long got, long want) {
        calls++;
        due.is("run " + run + ", call " + calls + ": " + call, got, want);
    }

    /** A number from least to most, now and then one beyond or far off. */
    private int in(int least, int most) {
        int how = draws.nextInt(60);
        if (how == 0) {
            return least - 1;
        }
        if (how == 1) {
            return most + 1;
        }
        if (how == 2) {
            return draws.nextInt();
        }
        if (how < 8) {
            return draws.nextBoolean() ? least : most;
        }
        return least + draws.nextInt(most - least + 1);
    }

    private void settle(int one) {
        int temper = draws.nextInt(4) == 0 ? in(0, m.now.limit) : in(0, Math.max(1, m.now.limit / 2));
        int stamps = draws.nextInt(3) == 0 ? in(0, 99) : in(0, 12);
        int purse = draws.nextInt(3) == 0 ? in(0, 999) : in(0, 40);
        int yard = in(0, 9);
        check("one(" + one + ", " + temper + ", " + stamps + ", " + purse + ", " + yard + ")",
                x.one(one, temper, stamps, purse, yard), m.one(one, temper, stamps, purse, yard));
        permit(one);
    }

    private void permit(int one) {
        int causes = draws.nextInt(3) == 0 ? in(0, 15) : 15;
        check("permit(" + one + ", " + causes + ")", x.permit(one, causes), m.permit(one, causes));
    }

    private int someone() {
        return in(0, 5);
    }

    private String act() {
        char who = LETTERS.charAt(draws.nextInt(6));
        for (int tries = 0; tries < 5 && m.now.who[who - 'A'] == null; tries++) {
            who = LETTERS.charAt(draws.nextInt(6));
        }
        switch (draws.nextInt(9)) {
            case 0: case 1: case 2: case 3:
                return "" + who + "hrtk".charAt(draws.nextInt(4)) + (1 + draws.nextInt(9));
            case 4: case 5:
                return who + "!" + (1 + draws.nextInt(draws.nextBoolean() ? 3 : 9));
            case 6:
                return who + ">" + (1 + draws.nextInt(9)) + LETTERS.charAt(draws.nextInt(6));
            case 7:
                return who + "@" + draws.nextInt(10);
            default:
                return ".";
        }
    }

    private void say(int sign) {
        check("say(" + sign + ")", x.say(sign), m.say(sign));
    }

    private void writeActs() {
        int acts = 1 + draws.nextInt(draws.nextInt(4) == 0 ? 16 : 4);
        for (int i = 0; i < acts; i++) {
            String act = act();
            // mostly only what can be goes on the pad, or hours would seldom be done
            if (draws.nextInt(12) != 0) {
                String before = m.pad;
                m.pad = before + act;
                boolean bad = m.fault() == Model.NONE && m.play().bad != Model.NONE;
                m.pad = before;
                if (bad) {
                    continue;
                }
            }
            for (int k = 0; k < act.length() && calls < CALLS - 80; k++) {
                say(act.charAt(k));
            }
        }
    }

    private void judgeAll() {
        check("fault()", x.fault(), m.fault());
        for (int what = 0; what < 3; what++) {
            check("judge(" + what + ")", x.judge(what), m.judge(what));
        }
        for (int what = 0; what < 4; what++) {
            check("slipped(" + what + ")", x.slipped(what), m.slipped(what));
        }
        int one = someone();
        for (int what = 0; what < 5; what++) {
            check("behind(" + one + ", " + what + ")", x.behind(one, what), m.behind(one, what));
        }
    }

    private void told(int what) {
        check("told(" + what + ")", x.told(what), m.told(what));
    }

    private void step() {
        int one = someone();
        switch (draws.nextInt(26)) {
            case 0:
                settle(one);
                break;
            case 1:
                if (draws.nextInt(3) == 0) {
                    check("leave(" + one + ")", x.leave(one), m.leave(one));
                }
                break;
            case 2:
                permit(one);
                break;
            case 3: {
                int which = in(0, 1);
                int v = which == 0 ? in(1, 20) : in(0, draws.nextBoolean() ? 3 : 9);
                check("set(" + which + ", " + v + ")", x.set(which, v), m.set(which, v));
                break;
            }
            case 4: case 5: case 6: case 7:
                writeActs();
                judgeAll();
                break;
            case 8:
                if (draws.nextInt(4) == 0) {
                    say(draws.nextInt(3) == 0 ? in(33, 126) : "ABCDEFhrtk!>@.0123456789".charAt(draws.nextInt(24)));
                    check("fault()", x.fault(), m.fault());
                }
                break;
            case 9: case 10:
                check("done()", x.done(), m.done());
                break;
            case 11:
                check("wipe()", x.wipe(), m.wipe());
                break;
            case 12:
                check("hears(" + one + ")", x.hears(one), m.hears(one));
                break;
            case 13: {
                int what = in(0, 4);
                check("behind(" + one + ", " + what + ")", x.behind(one, what), m.behind(one, what));
                check("slipped(" + what + ")", x.slipped(what), m.slipped(what));
                check("judge(" + what + ")", x.judge(what), m.judge(what));
                break;
            }
            default:
                reckon(one);
                break;
        }
    }

    private int weights() {
        int number = 0;
        boolean mild = draws.nextBoolean();
        for (int i = 0; i < 6; i++) {
            int most = mild ? 4 : 9;
            number = number * 10 + (draws.nextInt(5) == 0 ? 0 : draws.nextInt(most + 1));
        }
        return draws.nextInt(12) == 0 ? in(0, 999999) : number;
    }

    private void reckon(int one) {
        switch (draws.nextInt(12)) {
            case 0: {
                int v = in(0, m.now.limit);
                int n = in(0, draws.nextBoolean() ? 7 : 20);
                int weights = weights();
                int what = in(0, 2);
                check("spend(" + v + ", " + n + ", " + weights + ", " + what + ")",
                        x.spend(v, n, weights, what), m.spend(v, n, weights, what));
                break;
            }
            case 1: {
                int n = in(0, draws.nextInt(4) == 0 ? 20 : 7);
                int weights = weights();
                int who = draws.nextInt(3) == 0 ? -1 : one;
                check("deal(" + n + ", " + weights + ", " + who + ")", x.deal(n, weights, who), m.deal(n, weights, who));
                break;
            }
            case 2: {
                int v = draws.nextBoolean() ? in(0, 40) : in(0, m.now.limit);
                int what = in(0, 1);
                check("seats(" + v + ", " + what + ")", x.seats(v, what), m.seats(v, what));
                break;
            }
            case 3: {
                int a = in(0, draws.nextBoolean() ? 6 : 2);
                int b = in(0, draws.nextBoolean() ? 6 : 2);
                int first = weights();
                int second = weights();
                int what = in(0, 1);
                check("cover(" + a + ", " + b + ", " + first + ", " + second + ", " + what + ")",
                        x.cover(a, b, first, second, what), m.cover(a, b, first, second, what));
                break;
            }
            case 4: {
                int v = in(0, m.now.limit);
                int hours = in(0, 8);
                int w = in(1, 9);
                int t = in(0, 10);
                int what = in(0, 1);
                int part = in(0, 1);
                check("risk(" + v + ", " + hours + ", " + w + ", " + t + ", " + what + ", " + part + ")",
                        x.risk(v, hours, w, t, what, part), m.risk(v, hours, w, t, what, part));
                break;
            }
            case 5: case 6: {
                boolean heard = draws.nextInt(3) != 0;
                check("seen(" + one + ", " + heard + ")", x.seen(one, heard), m.seen(one, heard));
                check("who()", x.who(), m.who());
                break;
            }
            case 7:
                if (draws.nextInt(3) == 0) {
                    check("forget()", x.forget(), m.forget());
                }
                check("who()", x.who(), m.who());
                break;
            case 8: {
                int what = in(0, 1);
                check("ask(" + what + ")", x.ask(what), m.ask(what));
                break;
            }
            case 9: {
                int n = in(0, 99);
                int k = in(1, 9);
                int what = in(0, 1);
                check("quarrel(" + n + ", " + k + ", " + what + ")", x.quarrel(n, k, what), m.quarrel(n, k, what));
                break;
            }
            case 10: {
                int seed = in(0, 9999);
                int acts = in(1, 99);
                int what = in(0, 2);
                check("year(" + seed + ", " + acts + ", " + what + ")", x.year(seed, acts, what), m.year(seed, acts, what));
                break;
            }
            default: {
                int k = in(0, 1);
                if (draws.nextInt(3) != 0) {
                    check("image(" + k + ")", x.image(k), m.image(k));
                } else {
                    check("restore(" + k + ")", x.restore(k), m.restore(k));
                }
                break;
            }
        }
    }
}
