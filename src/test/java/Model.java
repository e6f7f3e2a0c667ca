import java.math.BigInteger;
import java.util.ArrayList;
import java.util.Arrays;
import java.util.List;
import java.util.function.ToIntFunction;
import java.util.regex.Matcher;
import java.util.regex.Pattern;

/**
 * The document once more, as slow and as literal as can be, to be held against BolsterBeds: towns are
 * copied for each deed, rounds, marriages and duels are all tried from their first night on.
 */
final class Model {
    private static final int BAD = -1, FULL = -2, STATE = -4, NONE = -9;
    private static final Pattern TOWN =
        Pattern.compile(" *n[0-9]{4}[1-9] *[bsqctw][0-9]{3}(?: *[bsqctw][0-9]{3}){0,5} *");

    private static final class Bed {
        int kind, left, right, thick, lie, outs;

        Bed copy() {
            Bed b = new Bed();
            b.kind = kind;
            b.left = left;
            b.right = right;
            b.thick = thick;
            b.lie = lie;
            b.outs = outs;
            return b;
        }
    }

    private static final class Town {
        List<Bed> beds = new ArrayList<>();
        String colds = "0000";
        int thread, night, fines;

        Town copy() {
            Town t = new Town();
            for (Bed b : beds) {
                t.beds.add(b.copy());
            }
            t.colds = colds;
            t.thread = thread;
            t.night = night;
            t.fines = fines;
            return t;
        }

        int cold(int m) {
            return colds.charAt(m % 4) - '0';
        }

        int crosses(Bed b, int m) {
            return crossing("bsqctw".charAt(b.kind), Math.abs(b.left - b.right), b.thick, m, cold(m));
        }

        int pass() {
            int all = 0;
            for (Bed b : beds) {
                int c = crosses(b, night);
                all += c;
                b.lie = b.lie + c > 99 ? 99 : b.lie + c;
                b.thick = c > 2 && b.thick > 0 ? b.thick - 1 : b.thick;
            }
            night++;
            return all;
        }

        boolean open(int i) {
            return beds.get(i).lie >= thread;
        }

        int inspect(int i) {
            if (i == NONE || !open(i)) {
                return 0;
            }
            Bed b = beds.get(i);
            int found = b.lie;
            b.lie = 0;
            b.thick = 9;
            b.outs++;
            fines++;
            return found;
        }
    }

    private static int crossing(char letter, int gap, int thick, int m, int cold) {
        int bar = thick;
        if (letter == 's' || letter == 'w') {
            bar = thick + 2;
        }
        if (letter == 'q' || letter == 't') {
            bar = thick >> 1;
        }
        int over = gap + cold > bar ? gap + cold - bar : 0;
        if (letter == 'c' && m % 2 == 1) {
            return 0;
        }
        if (letter == 't' && over > 0) {
            return over + 1;
        }
        return letter == 'w' ? over >> 1 : over;
    }

    private final int[][] rows = new int[6][];
    private final byte[][] texts = new byte[4][];
    private List<Town> story = new ArrayList<>(List.of(new Town()));
    private final List<List<Town>> kept = new ArrayList<>(Arrays.asList(null, null, null));
    private final int[] findings = new int[6];
    int asked = 0, finding = 0;
    long upper = 0, lower = 1;

    private Town now() {
        return story.get(story.size() - 1);
    }

    private int deeds() {
        return story.size() - 1;
    }

    private boolean bed(int i) {
        return i >= 0 && i < now().beds.size();
    }

    private static boolean in(int v, int least, int most) {
        return v >= least && v <= most;
    }

    private int find(int f) {
        finding = f;
        findings[f]++;
        return -3;
    }

    private int tell(int v) {
        asked = v;
        return 1;
    }

    /** The answer of a call by its name. */
    long call(String name, int[] a) {
        switch (name) {
            case "row": return row(a[0], a[1]);
            case "lay": return lay(a[0], a[1], a[2]);
            case "at": return at(a[0], a[1]);
            case "tear": return tear(a[0]);
            case "copy": return copy(a[0], a[1], a[2], a[3], a[4]);
            case "mean": return mean(a[0]);
            case "text": return text(a[0], a[1]);
            case "put": return put(a[0], a[1], a[2]);
            case "fault": return !in(a[0], 0, 3) ? BAD : texts[a[0]] == null ? find(1) : faultOf(a[0]);
            case "town": return town(a[0]);
            case "bed": return !bed(a[0]) || !in(a[1], 0, 7) ? BAD : tell(about(a[0], a[1]));
            case "mark": return mark(a[0], a[1]);
            case "cross": return !bed(a[0]) || !in(a[1], 0, 99) ? BAD : now().crosses(now().beds.get(a[0]), a[1]);
            case "night": return now().beds.isEmpty() ? STATE : deed(Town::pass);
            case "inspect": return !bed(a[0]) ? BAD : deed(t -> t.inspect(a[0]));
            case "thin": return thin(a[0]);
            case "swap": return swap(a[0], a[1]);
            case "undo": return undo(a[0]);
            case "keep": return keep(a[0]);
            case "on": return on(a[0]);
            case "then": return then(a[0], a[1]);
            case "when": return when(a[0]);
            case "least": return least(a[0], a[1]);
            case "round": return round(a[0], a[1]);
            case "brings": return brings(a[0]);
            case "marry": return marry(a[0]);
            case "rather": return rather();
            case "thicks": return clue(a[0], a[1], 0);
            case "kinds": return clue(a[0], a[1], 1);
            case "test": return clue(a[0], a[1], 2);
            case "duel": return !in(a[0], 0, 4) ? BAD : now().beds.isEmpty() ? STATE : duel(now(), 1, a[0]);
            case "odds": return odds(a[0], a[1]);
            case "mid": return mid(a[0]);
            case "lots": return lots(a[0], a[1]);
            case "asked": return asked;
            case "upper": return upper;
            case "lower": return lower;
            case "count": return count(a[0]);
            case "finding": return finding;
            case "findings": return in(a[0], 1, 5) ? findings[a[0]] : BAD;
            case "digest": return digest();
            default: throw new IllegalArgumentException(name);
        }
    }

    private int row(int r, int n) {
        if (!in(r, 0, 5) || n > 40) {
            return BAD;
        }
        if (n < 0) {
            return find(5);
        }
        rows[r] = new int[n];
        return n;
    }

    private int lay(int r, int i, int v) {
        int answer = at(r, i);
        if (answer == 1) {
            rows[r][i] = v;
        }
        return answer;
    }

    private int at(int r, int i) {
        if (!in(r, 0, 5)) {
            return BAD;
        }
        if (rows[r] == null) {
            return find(1);
        }
        return in(i, 0, rows[r].length - 1) ? tell(rows[r][i]) : find(2);
    }

    private int tear(int r) {
        if (!in(r, 0, 5)) {
            return BAD;
        }
        if (rows[r] == null) {
            return find(1);
        }
        rows[r] = null;
        return 1;
    }

    private int copy(int r, int i, int to, int j, int n) {
        if (!in(r, 0, 5) || !in(to, 0, 5)) {
            return BAD;
        }
        if (n < 0) {
            return find(5);
        }
        if (rows[r] == null || rows[to] == null) {
            return find(1);
        }
        if (i < 0 || j < 0 || (long) i + n > rows[r].length || (long) j + n > rows[to].length) {
            return find(2);
        }
        int[] ahead = rows[r].clone();
        for (int k = 0; k < n; k++) {
            rows[to][j + k] = ahead[i + k];
        }
        return 1;
    }

    private int mean(int r) {
        if (!in(r, 0, 5)) {
            return BAD;
        }
        if (rows[r] == null) {
            return find(1);
        }
        if (rows[r].length == 0) {
            return find(4);
        }
        BigInteger sum = BigInteger.ZERO;
        for (int v : rows[r]) {
            sum = sum.add(BigInteger.valueOf(v));
        }
        return tell(sum.divide(BigInteger.valueOf(rows[r].length)).intValueExact());
    }

    private int text(int t, int n) {
        if (!in(t, 0, 3) || n > 60) {
            return BAD;
        }
        if (n < 0) {
            return find(5);
        }
        texts[t] = new byte[n];
        Arrays.fill(texts[t], (byte) ' ');
        return n;
    }

    private int put(int t, int i, int v) {
        if (!in(t, 0, 3)) {
            return BAD;
        }
        if (texts[t] == null) {
            return find(1);
        }
        if (!in(i, 0, texts[t].length - 1)) {
            return find(2);
        }
        int was = texts[t][i];
        texts[t][i] = (byte) v;
        return was + 1000;
    }

    private String signs(int t) {
        StringBuilder s = new StringBuilder();
        for (byte b : texts[t]) {
            s.append((char) (b & 255));
        }
        return s.toString();
    }

    /** The longest beginning that a town can begin with is what a fault is behind of. */
    private int faultOf(int t) {
        String s = signs(t);
        if (TOWN.matcher(s).matches()) {
            return NONE;
        }
        for (int p = 0; p < s.length(); p++) {
            Matcher m = TOWN.matcher(s.substring(0, p + 1));
            if (!m.matches() && !m.hitEnd()) {
                return p;
            }
        }
        return s.length();
    }

    private int town(int t) {
        if (!in(t, 0, 3)) {
            return BAD;
        }
        if (texts[t] == null) {
            return find(1);
        }
        if (faultOf(t) != NONE) {
            return STATE;
        }
        String s = signs(t).replace(" ", "");
        Town town = new Town();
        town.colds = s.substring(1, 5);
        town.thread = s.charAt(5) - '0';
        for (int p = 6; p < s.length(); p += 4) {
            Bed b = new Bed();
            b.kind = "bsqctw".indexOf(s.charAt(p));
            b.left = s.charAt(p + 1) - '0';
            b.right = s.charAt(p + 2) - '0';
            b.thick = s.charAt(p + 3) - '0';
            town.beds.add(b);
        }
        story = new ArrayList<>(List.of(town));
        for (int k = 0; k < 3; k++) {
            kept.set(k, null);
        }
        return town.beds.size();
    }

    private int about(int i, int what) {
        Bed b = now().beds.get(i);
        int bar = b.kind == 1 || b.kind == 5 ? b.thick + 2 : b.kind == 2 || b.kind == 4 ? b.thick / 2 : b.thick;
        return new int[] {b.kind, b.left, b.right, b.thick, b.lie, now().crosses(b, now().night), bar, b.outs}[what];
    }

    private int mark(int i, int kind) {
        if (!bed(i) || !in(kind, 1, 5)) {
            return BAD;
        }
        int is = about(i, 0);
        if (is != kind && !(is == 4 && kind == 2) && !(is == 5 && kind == 1)) {
            return find(3);
        }
        int crosses = about(i, 5);
        switch (kind) {
            case 1: return as(i, 0) - crosses;
            case 2: return about(i, 3) - about(i, 6);
            case 3: return now().night % 2 == 0 ? 0 : 1;
            case 4: return crosses - as(i, 2);
            default: return as(i, 1) - crosses;
        }
    }

    private int as(int i, int kind) {
        Bed b = now().beds.get(i).copy();
        b.kind = kind;
        return now().crosses(b, now().night);
    }

    private int deed(ToIntFunction<Town> done) {
        if (deeds() == 40) {
            return FULL;
        }
        Town t = now().copy();
        int answer = done.applyAsInt(t);
        story.add(t);
        return answer;
    }

    private int thin(int i) {
        if (!bed(i)) {
            return BAD;
        }
        return about(i, 3) == 0 ? STATE : deed(t -> --t.beds.get(i).thick);
    }

    private int swap(int i, int j) {
        if (!bed(i) || !bed(j) || i == j) {
            return BAD;
        }
        return deed(t -> {
            Bed a = t.beds.get(i);
            Bed b = t.beds.get(j);
            int right = a.right;
            a.right = b.right;
            b.right = right;
            return Math.abs(a.left - a.right);
        });
    }

    private int undo(int n) {
        if (!in(n, 0, deeds())) {
            return BAD;
        }
        int undone = deeds() - n;
        story = new ArrayList<>(story.subList(0, n + 1));
        return undone;
    }

    private int keep(int k) {
        if (!in(k, 0, 2)) {
            return BAD;
        }
        if (now().beds.isEmpty()) {
            return STATE;
        }
        kept.set(k, new ArrayList<>(story));
        return deeds();
    }

    private int on(int k) {
        if (!in(k, 0, 2)) {
            return BAD;
        }
        if (kept.get(k) == null) {
            return find(1);
        }
        story = new ArrayList<>(kept.get(k));
        return deeds();
    }

    private int then(int i, int n) {
        if (!bed(i) || !in(n, 0, 40)) {
            return BAD;
        }
        Bed b = behind(now(), n).beds.get(i);
        asked = b.thick;
        return b.lie;
    }

    private static Town behind(Town town, int n) {
        Town t = town.copy();
        for (int k = 0; k < n; k++) {
            t.pass();
        }
        return t;
    }

    private int when(int i) {
        if (!bed(i)) {
            return BAD;
        }
        for (int n = 0; n <= 40; n++) {
            if (behind(now(), n).open(i)) {
                return n;
            }
        }
        return NONE;
    }

    private int least(int i, int n) {
        if (!bed(i) || !in(n, 0, 40)) {
            return BAD;
        }
        Town t = now().copy();
        for (int often = 0;; often++) {
            if (behind(t, n).open(i)) {
                return often;
            }
            if (t.beds.get(i).thick == 0) {
                return NONE;
            }
            t.beds.get(i).thick--;
        }
    }

    private static int found(Town town, int[] round) {
        Town t = town.copy();
        int found = 0;
        for (int i : round) {
            t.pass();
            found += t.inspect(i);
        }
        return found;
    }

    private int round(int n, int r) {
        if (!in(n, 0, 4) || !in(r, 0, 5)) {
            return BAD;
        }
        int beds = now().beds.size();
        if (beds == 0) {
            return STATE;
        }
        int most = -1;
        for (int number = 0; number < Math.pow(beds + 1, n); number++) {
            int[] round = new int[n];
            int rest = number;
            for (int k = n - 1; k >= 0; k--) {
                round[k] = rest % (beds + 1) == 0 ? NONE : rest % (beds + 1) - 1;
                rest /= beds + 1;
            }
            int found = found(now(), round);
            if (found > most) {
                most = found;
                rows[r] = round;
            }
        }
        return most;
    }

    private int brings(int r) {
        if (!in(r, 0, 5)) {
            return BAD;
        }
        if (now().beds.isEmpty()) {
            return STATE;
        }
        if (rows[r] == null) {
            return find(1);
        }
        if (rows[r].length > 10) {
            return find(5);
        }
        for (int i : rows[r]) {
            if (i != NONE && !bed(i)) {
                return find(3);
            }
        }
        Town t = now().copy();
        int fines = 0;
        int found = 0;
        for (int i : rows[r]) {
            t.pass();
            int there = t.inspect(i);
            fines += there > 0 ? 1 : 0;
            found += there;
        }
        asked = fines;
        return found;
    }

    private int marry(int r) {
        if (!in(r, 0, 5)) {
            return BAD;
        }
        int beds = now().beds.size();
        if (beds == 0) {
            return STATE;
        }
        int fewest = Integer.MAX_VALUE;
        for (int number = 0; number < Math.pow(beds, beds); number++) {
            int[] way = new int[beds];
            int rest = number;
            for (int k = beds - 1; k >= 0; k--) {
                way[k] = rest % beds;
                rest /= beds;
            }
            if (Arrays.stream(way).distinct().count() == beds) {
                int crossed = 0;
                for (int k = 0; k < beds; k++) {
                    Bed b = now().beds.get(k).copy();
                    b.right = now().beds.get(way[k]).right;
                    crossed += now().crosses(b, now().night);
                }
                if (crossed < fewest) {
                    fewest = crossed;
                    rows[r] = way;
                }
            }
        }
        return fewest;
    }

    private int rather() {
        if (now().beds.isEmpty()) {
            return STATE;
        }
        List<Integer> pairs = new ArrayList<>();
        for (int pair = 0; pair < 60; pair++) {
            int i = pair / 10;
            int j = pair % 10;
            if (bed(i) && bed(j) && i < j) {
                Bed a = now().beds.get(i);
                Bed b = now().beds.get(j);
                if (Math.abs(a.left - b.right) < Math.abs(a.left - a.right)
                    && Math.abs(b.left - a.right) < Math.abs(b.left - b.right)) {
                    pairs.add(pair);
                }
            }
        }
        asked = pairs.isEmpty() ? NONE : pairs.get(0);
        return pairs.size();
    }

    private boolean fits(Bed bed, int kind, int thick, int[] row) {
        for (int k = 0; k < row.length; k += 2) {
            if (would(bed, kind, thick, row[k]) != row[k + 1]) {
                return false;
            }
        }
        return true;
    }

    private int would(Bed bed, int kind, int thick, int m) {
        Bed b = bed.copy();
        b.kind = kind;
        b.thick = thick;
        return now().crosses(b, m);
    }

    private int clue(int i, int r, int which) {
        if (!bed(i) || !in(r, 0, 5)) {
            return BAD;
        }
        if (rows[r] == null) {
            return find(1);
        }
        if (rows[r].length % 2 == 1) {
            return find(5);
        }
        for (int k = 0; k < rows[r].length; k += 2) {
            if (!in(rows[r][k], 0, 99) || !in(rows[r][k + 1], 0, 30)) {
                return find(3);
            }
        }
        Bed b = now().beds.get(i);
        int thicks = 0;
        int kinds = 0;
        List<int[]> fitting = new ArrayList<>();
        for (int kind = 0; kind < 6; kind++) {
            for (int thick = 0; thick < 10; thick++) {
                if (fits(b, kind, thick, rows[r])) {
                    fitting.add(new int[] {kind, thick});
                    thicks |= kind == b.kind ? 1 << thick : 0;
                    kinds |= thick == b.thick ? 1 << kind : 0;
                }
            }
        }
        return which == 0 ? thicks : which == 1 ? kinds : telling(b, fitting);
    }

    private int telling(Bed b, List<int[]> fitting) {
        int best = NONE;
        int least = 61;
        for (int m = 0; m < 8 && !fitting.isEmpty(); m++) {
            int greatest = 0;
            for (int[] one : fitting) {
                int alike = 0;
                for (int[] other : fitting) {
                    alike += would(b, one[0], one[1], m) == would(b, other[0], other[1], m) ? 1 : 0;
                }
                greatest = Math.max(greatest, alike);
            }
            if (greatest < least) {
                least = greatest;
                best = m;
            }
        }
        asked = best == NONE ? asked : least;
        return best;
    }

    private int duel(Town town, int turn, int n) {
        if (turn > n) {
            return 0;
        }
        List<Integer> values = new ArrayList<>();
        for (int i = -1; i < town.beds.size(); i++) {
            Town t = town.copy();
            if (turn == 1 || turn == 3) {
                if (i >= 0 && t.beds.get(i).thick == 0) {
                    continue;
                }
                if (i >= 0) {
                    t.beds.get(i).thick--;
                }
                t.pass();
                values.add(duel(t, turn + 1, n));
            } else {
                int found = t.inspect(i < 0 ? NONE : i);
                values.add(found + duel(t, turn + 1, n));
            }
        }
        values.sort(null);
        return turn % 2 == 1 ? values.get(0) : values.get(values.size() - 1);
    }

    private int chance(BigInteger up, BigInteger down) {
        BigInteger divisor = up.gcd(down);
        upper = up.divide(divisor).longValueExact();
        lower = down.divide(divisor).longValueExact();
        return 1;
    }

    private static BigInteger power(int base, int exponent) {
        return BigInteger.valueOf(base).pow(exponent);
    }

    private int odds(int v, int p) {
        if (!in(v, 0, 6) || !in(p, 0, 12)) {
            return BAD;
        }
        if (now().beds.isEmpty()) {
            return STATE;
        }
        int open = Integer.bitCount(count(5));
        BigInteger sum = BigInteger.ZERO;
        for (int k = v; k <= open; k++) {
            BigInteger choices = BigInteger.ONE;
            for (int c = 0; c < k; c++) {
                choices = choices.multiply(BigInteger.valueOf(open - c)).divide(BigInteger.valueOf(c + 1));
            }
            sum = sum.add(choices.multiply(power(p, k)).multiply(power(12 - p, open - k)));
        }
        return chance(sum, power(12, open));
    }

    /** The greatest counts if it is reported, the next one if the greatest isn't, and so on. */
    private int mid(int p) {
        if (!in(p, 0, 12)) {
            return BAD;
        }
        if (now().beds.isEmpty()) {
            return STATE;
        }
        List<Integer> lying = new ArrayList<>();
        for (int i = 0; i < now().beds.size(); i++) {
            if (now().open(i)) {
                lying.add(-now().beds.get(i).lie);
            }
        }
        lying.sort(null);
        BigInteger sum = BigInteger.ZERO;
        for (int k = 0; k < lying.size(); k++) {
            sum = sum.add(BigInteger.valueOf(-lying.get(k)).multiply(power(12 - p, k))
                .multiply(BigInteger.valueOf(p)).multiply(power(12, lying.size() - k - 1)));
        }
        return chance(sum, power(12, lying.size()));
    }

    private int lots(int n, int seed) {
        if (!in(n, 1, 20) || !in(seed, 1, 2147483646)) {
            return BAD;
        }
        int beds = now().beds.size();
        if (beds == 0) {
            return STATE;
        }
        if (deeds() + n > 40) {
            return FULL;
        }
        int found = 0;
        BigInteger lot = BigInteger.valueOf(seed);
        for (int k = 0; k < n; k++) {
            lot = lot.multiply(BigInteger.valueOf(48271)).mod(BigInteger.valueOf(2147483647));
            int it = lot.intValueExact();
            int i = it / 8 % beds;
            if (it % 4 < 2) {
                deed(Town::pass);
            } else if (it % 4 == 2) {
                found += deed(t -> t.inspect(i));
            } else {
                deed(t -> t.beds.get(i).thick = Math.max(0, t.beds.get(i).thick - 1));
            }
        }
        return found;
    }

    private int count(int what) {
        Town t = now();
        switch (what) {
            case 0: return t.beds.size();
            case 1: return t.night;
            case 2: return deeds();
            case 3: return t.fines;
            case 4: return t.beds.stream().mapToInt(b -> b.lie).sum();
            case 5:
                int bits = 0;
                for (int i = 0; i < t.beds.size(); i++) {
                    bits += t.open(i) ? 1 << i : 0;
                }
                return bits;
            case 6: return t.beds.isEmpty() ? 0 : t.cold(t.night);
            case 7: return (int) t.beds.stream().filter(b -> b.kind == 2 || b.kind == 4).count();
            case 8: return (int) Arrays.stream(rows).filter(r -> r != null).count();
            case 9: return (int) Arrays.stream(texts).filter(r -> r != null).count();
            case 10: return (int) kept.stream().filter(k -> k != null).count();
            default: return BAD;
        }
    }

    private long digest() {
        List<Integer> values = new ArrayList<>();
        for (int what = 0; what <= 10; what++) {
            values.add(count(what));
        }
        for (int i = 0; i < now().beds.size(); i++) {
            for (int what = 0; what <= 7; what++) {
                values.add(about(i, what));
            }
        }
        for (List<Town> k : kept) {
            values.add(k == null ? -1 : k.size() - 1);
        }
        for (int[] r : rows) {
            values.add(r == null ? -1 : r.length);
            for (int k = 0; r != null && k < r.length; k++) {
                values.add(r[k]);
            }
        }
        for (byte[] t : texts) {
            values.add(t == null ? -1 : t.length);
            for (int k = 0; t != null && k < t.length; k++) {
                values.add((int) t[k]);
            }
        }
        long h = 17;
        for (int v : values) {
            h = 31 * h + v;
        }
        return h;
    }
}
