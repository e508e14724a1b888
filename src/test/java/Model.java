import java.util.ArrayList;
import java.util.List;
import java.util.regex.Matcher;
import java.util.regex.Pattern;

/**
 * The document written down a second time, by trying out everything: it shares no way of working
 * with OathPermit, so that both are wrong alike only where the document was misread.
 */
final class Model {
    static final int UNKNOWN = -1, OUTSIDE = -2, STATE = -3, FULL = -4, NO = -5, NONE = -6;
    private static final Pattern HOURS =
            Pattern.compile("(?:\\.|[A-F](?:[hrtk][1-9]|![1-9]|>[1-9][A-F]|@[0-9]))*");
    private static final Pattern ACT =
            Pattern.compile("\\.|[A-F](?:[hrtk][1-9]|![1-9]|>[1-9][A-F]|@[0-9])");

    static final class Person {
        int temper, stamps, purse, yard, permit = 0, cause = NONE;

        Person copy() {
            Person p = new Person();
            p.temper = temper;
            p.stamps = stamps;
            p.purse = purse;
            p.yard = yard;
            p.permit = permit;
            p.cause = cause;
            return p;
        }
    }

    static final class Place {
        Person[] who = new Person[6];
        int limit = 9, ears = 2;
        List<int[]> sights = new ArrayList<>();

        Place copy() {
            Place p = new Place();
            for (int i = 0; i < 6; i++) {
                p.who[i] = who[i] == null ? null : who[i].copy();
            }
            p.limit = limit;
            p.ears = ears;
            p.sights = new ArrayList<>(sights);
            return p;
        }

        Person get(int i) {
            return i < 0 || i > 5 ? null : who[i];
        }

        List<Integer> all() {
            List<Integer> list = new ArrayList<>();
            for (int i = 0; i < 6; i++) {
                if (who[i] != null) {
                    list.add(i);
                }
            }
            return list;
        }

        int hearers(int one) {
            int bits = 0;
            for (int i : all()) {
                if (i != one && Math.abs(who[i].yard - who[one].yard) <= ears) {
                    bits += 1 << i;
                }
            }
            return bits;
        }
    }

    /** What acts came to. */
    static final class Report {
        Place place;
        int acts = 0, bad = NONE, why = NONE, slips = 0, paid = 0, first = NONE, firstWho = NONE, firstHeard = 0;
    }

    Place now = new Place();
    String pad = "";
    Place[] images = new Place[2];

    int one(int one, int temper, int stamps, int purse, int yard) {
        if (one < 0 || one > 5) {
            return UNKNOWN;
        }
        if (temper < 0 || temper > now.limit || stamps < 0 || stamps > 99 || purse < 0 || purse > 999 || yard < 0 || yard > 9) {
            return OUTSIDE;
        }
        Person p = new Person();
        p.temper = temper;
        p.stamps = stamps;
        p.purse = purse;
        p.yard = yard;
        now.who[one] = p;
        return now.all().size();
    }

    int leave(int one) {
        if (now.get(one) == null) {
            return UNKNOWN;
        }
        now.who[one] = null;
        return now.all().size();
    }

    int permit(int one, int causes) {
        if (now.get(one) == null) {
            return UNKNOWN;
        }
        if (causes < 0 || causes > 15) {
            return OUTSIDE;
        }
        int was = now.who[one].permit;
        now.who[one].permit = causes;
        return was;
    }

    int set(int which, int v) {
        if (which == 0 && v >= 1 && v <= 20) {
            for (int i : now.all()) {
                if (now.who[i].temper > v) {
                    return STATE;
                }
            }
            int was = now.limit;
            now.limit = v;
            return was;
        }
        if (which == 1 && v >= 0 && v <= 9) {
            int was = now.ears;
            now.ears = v;
            return was;
        }
        return OUTSIDE;
    }

    int say(int sign) {
        if (sign < 33 || sign > 126) {
            return OUTSIDE;
        }
        if (pad.length() == 60) {
            return FULL;
        }
        pad += (char) sign;
        return pad.length();
    }

    int wipe() {
        int was = pad.length();
        pad = "";
        return was;
    }

    int fault() {
        for (int i = 1; i <= pad.length(); i++) {
            Matcher m = HOURS.matcher(pad.substring(0, i));
            if (!m.matches() && !m.hitEnd()) {
                return i - 1;
            }
        }
        return HOURS.matcher(pad).matches() ? NONE : pad.length();
    }

    static int tryAct(Place place, String act, Report report) {
        if (act.equals(".")) {
            for (int i : place.all()) {
                place.who[i].temper -= place.who[i].temper == 0 ? 0 : 1;
            }
            return 0;
        }
        int one = act.charAt(0) - 'A';
        char kind = act.charAt(1);
        int digit = act.charAt(2) - '0';
        Person p = place.get(one);
        int other = kind == '>' ? act.charAt(3) - 'A' : -1;
        Person q = place.get(other);
        if (p == null || kind == '>' && q == null) {
            return 1;
        }
        if (kind == '>') {
            if (p == q) {
                return 2;
            }
            if (p.stamps < digit) {
                return 5;
            }
            if (q.purse < digit || q.stamps + digit > 99 || p.purse + digit > 999) {
                return 6;
            }
            p.stamps -= digit;
            q.stamps += digit;
            p.purse += digit;
            q.purse -= digit;
            return 0;
        }
        if (kind == '@') {
            if (p.yard == digit) {
                return 2;
            }
            p.yard = digit;
            return 0;
        }
        if (kind == '!') {
            if (p.temper < digit) {
                return 3;
            }
            if (p.cause == NONE || (p.permit & (1 << p.cause)) == 0) {
                return 4;
            }
            if (p.stamps < digit) {
                return 5;
            }
            p.temper -= digit;
            p.stamps -= digit;
            return 0;
        }
        p.cause = "hrtk".indexOf(kind);
        p.temper += digit;
        if (p.temper > place.limit) {
            int heard = Integer.bitCount(place.hearers(one));
            int price = p.temper * heard;
            int pays = price > p.purse ? p.purse : price;
            p.purse -= pays;
            p.temper = 0;
            report.slips++;
            report.paid += pays;
            if (report.first == NONE) {
                report.first = report.acts;
                report.firstWho = one;
                report.firstHeard = heard;
            }
        }
        return 0;
    }

    Report play() {
        Report report = new Report();
        report.place = now.copy();
        Matcher m = ACT.matcher(pad);
        while (m.find()) {
            int why = tryAct(report.place, m.group(), report);
            if (why != 0) {
                report.bad = report.acts;
                report.why = why;
                return report;
            }
            report.acts++;
        }
        return report;
    }

    int judge(int what) {
        if (what < 0 || what > 2) {
            return OUTSIDE;
        }
        if (fault() != NONE) {
            return NO;
        }
        Report report = play();
        if (what == 2) {
            return report.bad != NONE ? STATE : report.slips;
        }
        return what == 0 ? report.bad : report.why;
    }

    private int padRefused() {
        if (fault() != NONE) {
            return NO;
        }
        return play().bad != NONE ? STATE : 0;
    }

    int behind(int one, int what) {
        if (now.get(one) == null) {
            return UNKNOWN;
        }
        if (what < 0 || what > 4) {
            return OUTSIDE;
        }
        if (padRefused() != 0) {
            return padRefused();
        }
        Person p = play().place.who[one];
        return new int[] {p.temper, p.stamps, p.purse, p.yard, p.cause}[what];
    }

    int slipped(int what) {
        if (what < 0 || what > 3) {
            return OUTSIDE;
        }
        if (padRefused() != 0) {
            return padRefused();
        }
        Report r = play();
        return new int[] {r.first, r.firstWho, r.firstHeard, r.paid}[what];
    }

    int done() {
        if (padRefused() != 0) {
            return padRefused();
        }
        Report r = play();
        now = r.place;
        pad = "";
        return r.acts;
    }

    int hears(int one) {
        return now.get(one) == null ? UNKNOWN : now.hearers(one);
    }

    private static int[] digits(int number) {
        int[] d = new int[6];
        for (int i = 5; i >= 0; i--) {
            d[i] = number % 10;
            number /= 10;
        }
        return d;
    }

    /** For each sum of stamps up to n that is spent: the fewest slips and the least number by which. */
    private static void tryStrengths(int limit, int[] weights, int hour, int temper, int used, int n, int slips, int number, int[][] best) {
        if (hour == 6) {
            if (best[used] == null || slips < best[used][0] || slips == best[used][0] && number < best[used][1]) {
                best[used] = new int[] {slips, number};
            }
            return;
        }
        int t = temper + weights[hour];
        int s = slips;
        if (t > limit) {
            t = 0;
            s++;
        }
        for (int oath = 0; oath <= 9 && oath <= t && used + oath <= n; oath++) {
            int after = t - oath;
            tryStrengths(limit, weights, hour + 1, after == 0 ? 0 : after - 1, used + oath, n, s, number * 10 + oath, best);
        }
    }

    private static int[][] allSpendings(int limit, int v, int n, int weights) {
        int[][] best = new int[n + 1][];
        tryStrengths(limit, digits(weights), 0, v, 0, n, 0, 0, best);
        return best;
    }

    int spend(int v, int n, int weights, int what) {
        if (v < 0 || v > now.limit || n < 0 || n > 20 || weights < 0 || weights > 999999 || what < 0 || what > 2) {
            return OUTSIDE;
        }
        int[][] best = allSpendings(now.limit, v, n, weights);
        int stamps = 0;
        for (int i = 0; i <= n; i++) {
            if (best[i] != null && best[i][0] < best[stamps][0]) {
                stamps = i;
            }
        }
        return new int[] {best[stamps][0], stamps, best[stamps][1]}[what];
    }

    private void tryShares(int i, int left, int slips, int[] shares, int[][] alone, int[] best) {
        if (i == 6) {
            if (left == 0 && slips < best[6]) {
                System.arraycopy(shares, 0, best, 0, 6);
                best[6] = slips;
            }
            return;
        }
        for (int s = 0; s <= (now.who[i] == null ? 0 : left); s++) {
            shares[i] = s;
            tryShares(i + 1, left - s, slips + (now.who[i] == null ? 0 : alone[i][s]), shares, alone, best);
        }
    }

    int deal(int n, int weights, int one) {
        if (one != -1 && now.get(one) == null) {
            return UNKNOWN;
        }
        if (n < 0 || n > 20 || weights < 0 || weights > 999999) {
            return OUTSIDE;
        }
        if (now.all().isEmpty()) {
            return 0;
        }
        int[][] alone = new int[6][n + 1];
        for (int i : now.all()) {
            int[][] by = allSpendings(now.limit, now.who[i].temper, n, weights);
            int fewest = 100;
            for (int s = 0; s <= n; s++) {
                fewest = by[s] != null && by[s][0] < fewest ? by[s][0] : fewest;
                alone[i][s] = fewest;
            }
        }
        int[] best = {0, 0, 0, 0, 0, 0, 1000};
        tryShares(0, n, 0, new int[6], alone, best);
        return one == -1 ? best[6] : best[one];
    }

    private void tryRows(List<Integer> row, int v, List<Integer> found) {
        if (row.size() == now.all().size()) {
            int number = 0;
            for (int i = 0; i < row.size(); i++) {
                if (i > 0 && now.who[row.get(i - 1)].temper + now.who[row.get(i)].temper > v) {
                    return;
                }
                number = number * 10 + row.get(i);
            }
            found.add(number);
            return;
        }
        for (int i : now.all()) {
            if (!row.contains(i)) {
                List<Integer> longer = new ArrayList<>(row);
                longer.add(i);
                tryRows(longer, v, found);
            }
        }
    }

    int seats(int v, int what) {
        if (v < 0 || v > 40 || what < 0 || what > 1) {
            return OUTSIDE;
        }
        List<Integer> found = new ArrayList<>();
        tryRows(new ArrayList<>(), v, found);
        if (what == 0) {
            return found.size();
        }
        int least = NONE;
        for (int row : found) {
            least = least == NONE || row < least ? row : least;
        }
        return least;
    }

    int cover(int a, int b, int one, int two, int what) {
        if (a < 0 || a > 6 || b < 0 || b > 6 || one < 0 || one > 999999 || two < 0 || two > 999999 || what < 0 || what > 1) {
            return OUTSIDE;
        }
        int most = -1;
        int least = 0;
        for (int way = 0; way < 4096; way++) {
            int usedA = 0;
            int usedB = 0;
            int covered = 0;
            int number = 0;
            boolean right = true;
            for (int i = 0; i < 6; i++) {
                int holds = way >> 2 * i & 3;
                right &= (holds == 3) == (now.who[i] == null);
                usedA += holds == 0 ? 1 : 0;
                usedB += holds == 1 ? 1 : 0;
                covered += holds == 0 ? digits(one)[i] : holds == 1 ? digits(two)[i] : 0;
                number = number * 10 + holds;
            }
            if (right && usedA <= a && usedB <= b && (covered > most || covered == most && number < least)) {
                most = covered;
                least = number;
            }
        }
        return what == 0 ? most : least;
    }

    long risk(int v, int m, int w, int t, int what, int part) {
        if (v < 0 || v > now.limit || m < 0 || m > 8 || w < 1 || w > 9 || t < 0 || t > 10 || what < 0 || what > 1 || part < 0 || part > 1) {
            return -1000000000000000000L + OUTSIDE;
        }
        long whole = 1;
        for (int i = 0; i < m; i++) {
            whole *= 10;
        }
        long sum = 0;
        for (int way = 0; way < 1 << m; way++) {
            long chance = 1;
            int temper = v;
            int slips = 0;
            for (int hour = 0; hour < m; hour++) {
                boolean mishap = (way >> hour & 1) == 1;
                chance *= mishap ? t : 10 - t;
                temper += mishap ? w : 0;
                if (temper > now.limit) {
                    temper = 0;
                    slips++;
                }
                temper = temper == 0 ? 0 : temper - 1;
            }
            sum += what == 1 ? chance * slips : slips == 0 ? chance : 0;
        }
        long divisor = whole;
        while (sum % divisor != 0 || whole % divisor != 0) {
            divisor = nextDivisor(divisor, whole);
        }
        return (part == 0 ? sum : whole) / divisor;
    }

    /** The divisors of a power of ten, downwards. */
    private static long nextDivisor(long divisor, long whole) {
        long best = 1;
        for (long two = 1; whole % two == 0; two *= 2) {
            for (long five = two; whole % five == 0; five *= 5) {
                best = five < divisor && five > best ? five : best;
            }
        }
        return best;
    }

    int seen(int one, boolean heard) {
        if (now.get(one) == null) {
            return UNKNOWN;
        }
        if (now.sights.size() == 8) {
            return FULL;
        }
        now.sights.add(new int[] {one, heard ? 1 : 0});
        return now.sights.size();
    }

    int forget() {
        int was = now.sights.size();
        now.sights.clear();
        return was;
    }

    private boolean would(int slipper, int asked) {
        return slipper == asked || (now.hearers(slipper) >> asked & 1) == 1;
    }

    private List<Integer> suspects() {
        List<Integer> list = new ArrayList<>();
        for (int i : now.all()) {
            boolean so = true;
            for (int[] sight : now.sights) {
                so &= now.who[sight[0]] != null && would(i, sight[0]) == (sight[1] == 1);
            }
            if (so) {
                list.add(i);
            }
        }
        return list;
    }

    int who() {
        int bits = 0;
        for (int i : suspects()) {
            bits += 1 << i;
        }
        return bits;
    }

    int ask(int what) {
        if (what < 0 || what > 1) {
            return OUTSIDE;
        }
        if (suspects().isEmpty()) {
            return NONE;
        }
        int best = NONE;
        int fewest = 99;
        for (int asked : now.all()) {
            int yes = 0;
            int no = 0;
            for (int i : suspects()) {
                yes += would(i, asked) ? 1 : 0;
                no += would(i, asked) ? 0 : 1;
            }
            if (Math.max(yes, no) < fewest) {
                fewest = Math.max(yes, no);
                best = asked;
            }
        }
        return what == 0 ? best : fewest;
    }

    int quarrel(int n, int k, int what) {
        if (n < 0 || n > 99 || k < 1 || k > 9 || what < 0 || what > 1) {
            return OUTSIDE;
        }
        int[] by = new int[n + 1];
        for (int left = 0; left <= n; left++) {
            by[left] = NONE;
            for (int s = Math.min(k, left); s >= 1; s--) {
                if (by[left - s] == NONE) {
                    by[left] = s;
                }
            }
        }
        return what == 1 ? by[n] : by[n] == NONE ? 0 : 1;
    }

    int year(int seed, int m, int what) {
        if (seed < 0 || seed > 9999 || m < 1 || m > 99 || what < 0 || what > 2) {
            return OUTSIDE;
        }
        Report report = new Report();
        Place place = now.copy();
        long x = seed;
        for (int i = 0; i < m; i++) {
            x = (75L * x + 74) % 65537;
            char letter = (char) ('A' + x % 6);
            long by48 = x / 48;
            String act;
            switch ((int) (x / 6 % 8)) {
                case 0: case 1: case 2:
                    act = "" + letter + "hrtk".charAt((int) (by48 % 4)) + (1 + x / 192 % 9);
                    break;
                case 3: case 4:
                    act = letter + "!" + (1 + by48 % 5);
                    break;
                case 5:
                    act = letter + ">1" + (char) ('A' + by48 % 6);
                    break;
                case 6:
                    act = letter + "@" + by48 % 10;
                    break;
                default:
                    act = ".";
            }
            tryAct(place, act, report);
        }
        int tempers = 0;
        for (int i : place.all()) {
            tempers += place.who[i].temper;
        }
        return new int[] {report.slips, report.paid, tempers}[what];
    }

    int image(int k) {
        if (k < 0 || k > 1) {
            return OUTSIDE;
        }
        images[k] = now.copy();
        return 1;
    }

    int restore(int k) {
        if (k < 0 || k > 1) {
            return OUTSIDE;
        }
        if (images[k] == null) {
            return STATE;
        }
        now = images[k].copy();
        return 1;
    }

    int told(int what) {
        if (what >= 0 && what <= 4) {
            int bits = 0;
            for (int i : now.all()) {
                bits += 1 << i;
            }
            return new int[] {pad.length(), bits, now.limit, now.ears, now.sights.size()}[what];
        }
        for (int i : now.all()) {
            if (what >= 10 * (1 + i) && what <= 10 * (1 + i) + 5) {
                Person p = now.who[i];
                return new int[] {p.temper, p.permit, p.stamps, p.purse, p.yard, p.cause}[what - 10 * (1 + i)];
            }
        }
        return OUTSIDE;
    }
}
