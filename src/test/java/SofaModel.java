import java.math.BigInteger;
import java.util.ArrayDeque;
import java.util.ArrayList;
import java.util.Arrays;
import java.util.HashMap;
import java.util.HashSet;
import java.util.List;
import java.util.Map;
import java.util.Set;
import java.util.TreeSet;

/** The document once more, as plainly as it can be said, by other means than the program: what ModelTest compares with. */
final class SofaModel {
    static final class S {
        int spot, heading, current = 100, box, steps, bumps, day;
        TreeSet<Integer> chairs = new TreeSet<>();
        int[] dust;

        S copy() {
            S s = new S();
            s.spot = spot;
            s.heading = heading;
            s.current = current;
            s.box = box;
            s.steps = steps;
            s.bumps = bumps;
            s.day = day;
            s.chairs = new TreeSet<>(chairs);
            s.dust = dust.clone();
            return s;
        }
    }

    private static final int[] DOWN = {-1, 0, 1, 0};
    private static final int[] RIGHT = {0, 1, 0, -1};

    final StringBuilder text = new StringBuilder();
    String[] grid = {"."};
    String rule = "";
    S s = new S();
    final ArrayDeque<S> undo = new ArrayDeque<>();
    final S[] kept = new S[3];
    final List<String> things = new ArrayList<>();
    List<Long> row = new ArrayList<>();

    SofaModel() {
        s.dust = new int[1];
    }

    // the flat

    int rows() {
        return grid.length;
    }

    int columns() {
        return grid[0].length();
    }

    int spots() {
        return rows() * columns();
    }

    char sign(int spot) {
        return grid[spot / columns()].charAt(spot % columns());
    }

    boolean isSpot(int spot) {
        return spot >= 0 && spot < spots();
    }

    boolean isWall(int spot) {
        return sign(spot) == '#';
    }

    boolean isRug(int spot) {
        return sign(spot) == 'r' || sign(spot) == 'q';
    }

    int plug() {
        int at = String.join("", grid).indexOf('p');
        return at >= 0 ? at : String.join("", grid).indexOf('q');
    }

    int ahead(int spot, int heading) {
        int r = spot / columns() + DOWN[heading];
        int c = spot % columns() + RIGHT[heading];
        return r < 0 || r >= rows() || c < 0 || c >= columns() ? -1 : r * columns() + c;
    }

    boolean isFree(S m, int spot) {
        return isSpot(spot) && !isWall(spot) && !m.chairs.contains(spot);
    }

    int open() {
        int n = 0;
        for (int i = 0; i < spots(); i++) {
            n += isWall(i) ? 0 : 1;
        }
        return n;
    }

    int addSigns(int v) {
        if (text.length() > 76) {
            return -1;
        }
        text.append((char) (v >>> 24)).append((char) (v >> 16 & 255)).append((char) (v >> 8 & 255)).append((char) (v & 255));
        return text.length();
    }

    boolean end(int n) {
        if (n < 0 || n > text.length()) {
            return false;
        }
        text.setLength(n);
        return true;
    }

    private String taken() {
        String t = text.toString();
        text.setLength(0);
        return t;
    }

    /** Whether some text that begins so could be a flat. */
    private static boolean flatCanBegin(String t) {
        if (!t.matches("[#.rpq/]*") || t.replaceAll("[^pq]", "").length() > 1) {
            return false;
        }
        String[] parts = t.split("/", -1);
        if (parts.length > 6) {
            return false;
        }
        for (int i = 0; i < parts.length; i++) {
            boolean last = i == parts.length - 1;
            int most = i == 0 ? 6 : parts[0].length();
            if (parts[i].length() > most || !last && (parts[i].isEmpty() || i > 0 && parts[i].length() != most)) {
                return false;
            }
        }
        return true;
    }

    int flat() {
        String t = taken();
        for (int p = 0; p < t.length(); p++) {
            if (!flatCanBegin(t.substring(0, p + 1))) {
                return -1 - p;
            }
        }
        String[] parts = t.split("/", -1);
        String last = parts[parts.length - 1];
        if (last.isEmpty() || last.length() != parts[0].length()) {
            return -1 - t.length();
        }
        if (t.matches("[#/]*")) {
            return -100;
        }
        grid = parts;
        s = new S();
        s.dust = new int[spots()];
        s.spot = plug();
        for (int i = spots() - 1; i >= 0 && plug() < 0; i--) {
            s.spot = isWall(i) ? s.spot : i;
        }
        undo.clear();
        things.clear();
        Arrays.fill(kept, null);
        return open();
    }

    // the rule

    /** Where the sign is that can't stand in the first signs of a rule, its length if it ends too early, -1 if it can end. */
    private static int wrongOfRule(String t) {
        boolean wanted = true;
        int digits = 0;
        ArrayDeque<Boolean> compared = new ArrayDeque<>();
        compared.push(false);
        for (int p = 0; p < t.length(); p++) {
            char c = t.charAt(p);
            if (wanted) {
                if (c == '-') {
                    continue;
                }
                if (c == '(' && compared.size() < 5) {
                    compared.push(false);
                } else if ("0123456789bhsrd".indexOf(c) >= 0) {
                    wanted = false;
                    digits = Character.isDigit(c) ? 1 : 0;
                } else {
                    return p;
                }
                continue;
            }
            if (c >= '0' && c <= '9' && digits > 0 && digits < 3) {
                digits++;
                continue;
            }
            digits = 0;
            if (c == ')' && compared.size() > 1) {
                compared.pop();
            } else if ("<>=".indexOf(c) >= 0 && !compared.peek()) {
                compared.pop();
                compared.push(true);
                wanted = true;
            } else if ("+-*/".indexOf(c) >= 0) {
                wanted = true;
            } else {
                return p;
            }
        }
        return wanted || compared.size() > 1 ? t.length() : -1;
    }

    int rule() {
        String t = taken();
        if (t.isEmpty()) {
            rule = "";
            return 0;
        }
        int wrong = wrongOfRule(t.substring(0, Math.min(40, t.length())));
        if (wrong < 0 && t.length() > 40) {
            wrong = 40;
        }
        if (wrong >= 0) {
            return -1 - wrong;
        }
        rule = t;
        return 0;
    }

    /** The last sign outside of brackets that has two sides and is one of these, -1 if there is none. */
    private static int lastOf(String t, String signs) {
        int depth = 0;
        for (int p = t.length() - 1; p > 0; p--) {
            char c = t.charAt(p);
            depth += c == ')' ? 1 : c == '(' ? -1 : 0;
            boolean behindThing = "0123456789bhsrd)".indexOf(t.charAt(p - 1)) >= 0;
            if (depth == 0 && signs.indexOf(c) >= 0 && behindThing) {
                return p;
            }
        }
        return -1;
    }

    private int value(String t, S m) {
        for (String signs : new String[] {"<>=", "+-", "*/"}) {
            int p = lastOf(t, signs);
            if (p >= 0) {
                int a = value(t.substring(0, p), m);
                int b = value(t.substring(p + 1), m);
                switch (t.charAt(p)) {
                    case '<': return a < b ? 1 : 0;
                    case '>': return a > b ? 1 : 0;
                    case '=': return a == b ? 1 : 0;
                    case '+': return a + b;
                    case '-': return a - b;
                    case '*': return a * b;
                    default: return b == 0 ? 0 : a / b;
                }
            }
        }
        if (t.charAt(0) == '-') {
            return -value(t.substring(1), m);
        }
        if (t.charAt(0) == '(') {
            return value(t.substring(1, t.length() - 1), m);
        }
        switch (t) {
            case "b": return m.bumps % 8;
            case "h": return m.heading;
            case "s": return m.spot;
            case "r": return isRug(m.spot) ? 1 : 0;
            case "d": return m.dust[m.spot];
            default: return Integer.parseInt(t);
        }
    }

    int turnOf(S m) {
        return rule.isEmpty() ? 1 : Math.floorMod(value(rule, m), 4);
    }

    Integer spot(int spot, int what) {
        if (!isSpot(spot) || what < 0 || what > 5) {
            return null;
        }
        boolean[] is = {false, s.chairs.contains(spot), false, spot == plug(), spot == s.spot, isFree(s, spot)};
        return what == 0 ? (isWall(spot) ? 0 : isRug(spot) ? 2 : 1) : what == 2 ? s.dust[spot] : is[what] ? 1 : 0;
    }

    Integer machine(int what) {
        if (what < 0 || what > 7) {
            return null;
        }
        return new int[] {s.spot, s.heading, s.current, s.box, s.steps, s.bumps, turnOf(s), ahead(s.spot, s.heading)}[what];
    }

    int sheet(int kind, int n, int f, int step) {
        if (kind < 0 || kind > 3 || n > 36) {
            return -1;
        }
        if (kind < 3 && n < 0) {
            return -2;
        }
        Arrays.fill(s.dust, 0);
        if (kind == 3) {
            return -3;
        }
        int e = f;
        for (int i = 0; i < Math.min(n, spots()); i++) {
            int v = kind == 0 ? (byte) e : kind == 1 ? (short) e : e;
            s.dust[i] = isWall(i) ? 0 : v < 0 ? 0 : v > 99 ? 99 : v;
            e += step;
        }
        return dustOf(s);
    }

    static int dustOf(S m) {
        return Arrays.stream(m.dust).sum();
    }

    // steps, days

    boolean step(S m, boolean costs, int fixed) {
        int cost = !costs ? 0 : isRug(m.spot) ? 2 : 1;
        if (m.current < cost) {
            return false;
        }
        m.current -= cost;
        m.steps++;
        int next = ahead(m.spot, m.heading);
        if (isFree(m, next)) {
            m.spot = next;
            m.box += m.dust[next];
            m.dust[next] = 0;
        } else {
            m.heading = (m.heading + (fixed == 0 ? turnOf(m) : fixed)) % 4;
            m.bumps++;
        }
        return true;
    }

    void day(S m) {
        m.day++;
        for (int i = 0; i < spots(); i++) {
            m.dust[i] = isWall(i) ? 0 : Math.min(99, m.dust[i] + (isRug(i) ? 2 : 1));
        }
    }

    private int recorded(S ahead, int answer) {
        if (answer >= 0) {
            undo.addLast(ahead);
            if (undo.size() > 15) {
                undo.removeFirst();
            }
        }
        return answer;
    }

    int act(char kind, int n, int m) {
        S ahead = s.copy();
        return recorded(ahead, bare(kind, n, m));
    }

    private int bare(char kind, int n, int m) {
        switch (kind) {
            case 's': {
                if (n < 0 || n > 200) {
                    return -1;
                }
                int box = s.box;
                int bumps = s.bumps;
                int done = 0;
                while (done < n && step(s, true, 0)) {
                    done++;
                }
                tell(s.box - box, s.bumps - bumps);
                return done;
            }
            case 't':
                if (n < 0 || n > 3) {
                    return -1;
                }
                s.heading = (s.heading + n) % 4;
                return s.heading;
            case 'd':
                if (n < 1 || n > 30) {
                    return -1;
                }
                for (int i = 0; i < n; i++) {
                    day(s);
                }
                return dustOf(s);
            case 'c':
                if (!isSpot(n)) {
                    return -1;
                }
                if (isWall(n) || s.spot == n) {
                    return -2;
                }
                if (!s.chairs.remove(n)) {
                    s.chairs.add(n);
                }
                return s.chairs.size();
            case 'y': {
                if (!isSpot(n) || m < 0 || m > 3) {
                    return -1;
                }
                if (!isFree(s, n)) {
                    return -2;
                }
                int was = s.spot;
                s.spot = n;
                s.heading = m;
                return was;
            }
            default: {
                if (n < 1 || n > 999) {
                    return -1;
                }
                if (plug() < 0 || plug() != s.spot) {
                    return -2;
                }
                int was = s.box;
                s.box = 0;
                s.current = n;
                return was;
            }
        }
    }

    int run() {
        String t = taken();
        String first = t.substring(0, Math.min(60, t.length()));
        String act = "(s[0-9]|t[0-3]|d[1-9]|c[0-9][0-9]|l[0-9][0-9])";
        for (int p = 0; p < first.length(); p++) {
            if (!first.substring(0, p + 1).matches(act + "*([stdcl]|[cl][0-9])?")) {
                return -1 - p;
            }
        }
        if (t.length() > 60) {
            return -61;
        }
        if (!t.matches(act + "*")) {
            return -1 - t.length();
        }
        S ahead = s.copy();
        int done = 0;
        boolean refused = false;
        String rest = t;
        while (!rest.isEmpty() && !refused) {
            int width = rest.charAt(0) == 'c' || rest.charAt(0) == 'l' ? 3 : 2;
            int n = Integer.parseInt(rest.substring(1, width));
            int answer = bare(rest.charAt(0), rest.charAt(0) == 'l' ? n * 10 : n, 0);
            refused = answer < 0 || rest.charAt(0) == 's' && n > 0 && answer == 0;
            done += refused ? 0 : 1;
            rest = rest.substring(width);
        }
        if (done > 0) {
            recorded(ahead, 0);
        }
        tell(refused ? 1 : 0, s.box);
        return done;
    }

    int undo() {
        if (undo.isEmpty()) {
            return -1;
        }
        s = undo.removeLast();
        return undo.size();
    }

    private void tell(long... numbers) {
        row = new ArrayList<>();
        for (long n : numbers) {
            row.add(n);
        }
    }

    private static long bits(Set<Integer> set) {
        long b = 0;
        for (int i : set) {
            b |= 1L << i;
        }
        return b;
    }

    // as it goes on

    int been(int n) {
        if (n < 0 || n > 200) {
            return -1;
        }
        S m = s.copy();
        Set<Integer> seen = new HashSet<>(List.of(m.spot));
        for (int i = 0; i < n; i++) {
            step(m, true, 0);
            seen.add(m.spot);
        }
        tell(bits(seen), m.spot, m.current);
        return seen.size();
    }

    private Set<Integer> reach(int without, int with) {
        S m = s.copy();
        m.chairs.add(without);
        m.chairs.remove(with);
        Set<Integer> seen = new HashSet<>();
        ArrayDeque<Integer> todo = new ArrayDeque<>(List.of(m.spot));
        while (!todo.isEmpty()) {
            int at = todo.pop();
            if (seen.add(at)) {
                for (int h = 0; h < 4; h++) {
                    if (isFree(m, ahead(at, h))) {
                        todo.push(ahead(at, h));
                    }
                }
            }
        }
        return seen;
    }

    private int allBy(int fixed) {
        S m = s.copy();
        Set<Integer> left = reach(-1, -1);
        left.remove(m.spot);
        for (int i = 0; i < 1000; i++) {
            if (left.isEmpty()) {
                return i;
            }
            step(m, false, fixed);
            left.remove(m.spot);
        }
        return 1000;
    }

    int all() {
        int n = allBy(0);
        if (n == 1000) {
            return -2;
        }
        tell(reach(-1, -1).size());
        return n;
    }

    int never() {
        S m = s.copy();
        Set<Integer> left = reach(-1, -1);
        left.remove(m.spot);
        for (int i = 0; i < 999; i++) {
            step(m, false, 0);
            left.remove(m.spot);
        }
        tell(bits(left));
        return left.size();
    }

    int angle() {
        int best = 1;
        for (int a = 2; a <= 3; a++) {
            best = allBy(a) < allBy(best) ? a : best;
        }
        tell(allBy(best), allBy(1), allBy(2), allBy(3));
        return best;
    }

    int meets() {
        S m = s.copy();
        for (int i = 0; i <= 999; i++) {
            if (m.spot == plug()) {
                return i;
            }
            step(m, false, 0);
        }
        return -2;
    }

    int round() {
        S m = s.copy();
        for (int i = 1; i <= 999; i++) {
            step(m, false, 0);
            if (m.spot == s.spot && m.heading == s.heading) {
                tell(m.bumps - s.bumps);
                return i;
            }
        }
        return -2;
    }

    int corner(int n) {
        if (n < 1 || n > 999) {
            return -1;
        }
        S m = s.copy();
        List<Integer> on = new ArrayList<>();
        for (int i = 0; i < n; i++) {
            step(m, false, 0);
            on.add(m.spot);
        }
        int best = 0;
        for (int i = 0; i < spots(); i++) {
            best = java.util.Collections.frequency(on, i) > java.util.Collections.frequency(on, best) ? i : best;
        }
        tell(java.util.Collections.frequency(on, best));
        return best;
    }

    // ways

    private static int compareRows(List<Integer> a, List<Integer> b) {
        for (int i = 0; i < Math.min(a.size(), b.size()); i++) {
            if (!a.get(i).equals(b.get(i))) {
                return a.get(i) - b.get(i);
            }
        }
        return a.size() - b.size();
    }

    private int costOf(List<Integer> way) {
        int cost = 0;
        for (int i = 0; i + 1 < way.size(); i++) {
            cost += isRug(way.get(i)) ? 2 : 1;
        }
        return cost;
    }

    /** The best way from each SPOT to a goal, bettered till nothing betters it. */
    private Map<Integer, List<Integer>> waysTo(int goal) {
        Map<Integer, List<Integer>> best = new HashMap<>();
        if (isFree(s, goal)) {
            best.put(goal, List.of(goal));
        }
        boolean changed = true;
        while (changed) {
            changed = false;
            for (int from = 0; from < spots(); from++) {
                for (int h = 0; h < 4 && isFree(s, from) && from != goal; h++) {
                    List<Integer> tail = best.get(ahead(from, h));
                    if (tail == null) {
                        continue;
                    }
                    List<Integer> way = new ArrayList<>(List.of(from));
                    way.addAll(tail);
                    List<Integer> old = best.get(from);
                    if (old == null || costOf(way) < costOf(old) || costOf(way) == costOf(old) && compareRows(way, old) < 0) {
                        best.put(from, way);
                        changed = true;
                    }
                }
            }
        }
        return best;
    }

    int way(int from, int to) {
        if (!isSpot(from) || !isSpot(to)) {
            return -1;
        }
        List<Integer> way = isFree(s, from) && isFree(s, to) ? waysTo(to).get(from) : null;
        if (way == null) {
            return -2;
        }
        tell(way.stream().mapToLong(i -> i).toArray());
        return costOf(way);
    }

    int back() {
        if (plug() < 0) {
            return -2;
        }
        Map<Integer, List<Integer>> ways = waysTo(plug());
        int most = -2;
        for (int n = 0; n <= 200; n++) {
            S m = s.copy();
            int done = 0;
            while (done < n && step(m, true, 0)) {
                done++;
            }
            List<Integer> home = ways.get(m.spot);
            if (home != null && costOf(home) <= m.current) {
                most = Math.max(most, done);
            }
        }
        return most;
    }

    int bestPlug() {
        int best = -1;
        int least = 0;
        for (int p = 0; p < spots(); p++) {
            if (!isFree(s, p)) {
                continue;
            }
            Map<Integer, List<Integer>> ways = waysTo(p);
            int greatest = 0;
            for (int from = 0; from < spots(); from++) {
                if (isFree(s, from)) {
                    greatest = Math.max(greatest, ways.containsKey(from) ? costOf(ways.get(from)) : 500);
                }
            }
            if (best < 0 || greatest < least) {
                best = p;
                least = greatest;
            }
        }
        tell(least);
        return best;
    }

    int doors() {
        if (plug() < 0 || !reach(-1, -1).contains(plug())) {
            return -2;
        }
        Set<Integer> doors = new HashSet<>();
        for (int i = 0; i < spots(); i++) {
            if (isFree(s, i) && i != s.spot && i != plug() && !reach(i, -1).contains(plug())) {
                doors.add(i);
            }
        }
        tell(bits(doors));
        return doors.size();
    }

    int chairs() {
        if (s.chairs.isEmpty()) {
            return -2;
        }
        int now = reach(-1, -1).size();
        int best = s.chairs.first();
        for (int c : s.chairs) {
            best = reach(-1, c).size() > reach(-1, best).size() ? c : best;
        }
        tell(reach(-1, best).size() - now);
        return best;
    }

    private int dustOn(List<Integer> walk) {
        Set<Integer> on = new HashSet<>(walk);
        on.remove(s.spot);
        return on.stream().mapToInt(i -> s.dust[i]).sum();
    }

    private List<Integer> bestWalk(List<Integer> walk, int left) {
        List<Integer> best = new ArrayList<>(walk);
        int at = walk.isEmpty() ? s.spot : walk.get(walk.size() - 1);
        for (int h = 0; h < 4 && left > 0; h++) {
            if (!isFree(s, ahead(at, h))) {
                continue;
            }
            walk.add(ahead(at, h));
            List<Integer> other = bestWalk(walk, left - 1);
            walk.remove(walk.size() - 1);
            int more = dustOn(other) - dustOn(best);
            boolean shorter = more == 0 && other.size() < best.size();
            boolean less = more == 0 && other.size() == best.size() && compareRows(other, best) < 0;
            best = more > 0 || shorter || less ? other : best;
        }
        return best;
    }

    int best(int n) {
        if (n < 0 || n > 6) {
            return -1;
        }
        List<Integer> walk = bestWalk(new ArrayList<>(), n);
        tell(walk.stream().mapToLong(i -> i).toArray());
        return dustOn(walk);
    }

    // where it is

    private Set<Integer> places(List<String> told) {
        Set<Integer> set = new HashSet<>();
        for (int i = 0; i < spots() * 4; i++) {
            if (isFree(s, i / 4)) {
                set.add(i);
            }
        }
        for (String thing : told) {
            Set<Integer> next = new HashSet<>();
            for (int place : set) {
                int at = place / 4;
                int h = place % 4;
                boolean goes = isFree(s, ahead(at, h));
                if (thing.startsWith("swung")) {
                    next.add(at * 4 + (h + thing.charAt(5) - '0') % 4);
                } else if (thing.equals("went") && goes) {
                    next.add(ahead(at, h) * 4 + h);
                } else if (thing.equals("struck") && !goes) {
                    next.add(place);
                }
            }
            set = next;
        }
        return set;
    }

    int felt(int is) {
        if (is < 0 || is > 1 || things.size() == 12) {
            return -1;
        }
        things.add(is == 1 ? "struck" : "went");
        return places(things).size();
    }

    int swung(int n) {
        if (n < 1 || n > 3 || things.size() == 12) {
            return -1;
        }
        things.add("swung" + n);
        return places(things).size();
    }

    int forget() {
        int n = things.size();
        things.clear();
        return n;
    }

    int held() {
        Set<Integer> on = new HashSet<>();
        for (int place : places(things)) {
            on.add(place / 4);
        }
        tell(bits(on), places(things).size());
        return on.size();
    }

    int feel() {
        if (places(things).isEmpty()) {
            return -2;
        }
        int best = -1;
        int least = 0;
        for (int q = 0; q < 4; q++) {
            List<String> strikes = new ArrayList<>(things);
            strikes.add("swung" + q);
            List<String> goes = new ArrayList<>(strikes);
            strikes.add("struck");
            goes.add("went");
            int most = Math.max(places(strikes).size(), places(goes).size());
            if (best < 0 || most < least) {
                best = q;
                least = most;
            }
        }
        tell(least);
        return best;
    }

    // chance, days, the map, the box, lots

    private void tellFraction(BigInteger upper, BigInteger lower) {
        BigInteger by = upper.gcd(lower);
        tell(upper.divide(by).longValueExact(), lower.divide(by).longValueExact());
    }

    private long waysFrom(int at, int n, int to, Map<Integer, Long> known) {
        if (n == 0) {
            return at == to ? 1 : 0;
        }
        Long was = known.get(at * 16 + n);
        if (was != null) {
            return was;
        }
        long sum = 0;
        for (int h = 0; h < 4; h++) {
            sum += waysFrom(isFree(s, ahead(at, h)) ? ahead(at, h) : at, n - 1, to, known);
        }
        known.put(at * 16 + n, sum);
        return sum;
    }

    int likely(int n, int spot) {
        if (n < 0 || n > 10 || !isSpot(spot)) {
            return -1;
        }
        tellFraction(BigInteger.valueOf(waysFrom(s.spot, n, spot, new HashMap<>())), BigInteger.valueOf(4).pow(n));
        return 0;
    }

    int week(int k, int v) {
        if (k < 0 || k > 7 || v < 1 || v > 9) {
            return -1;
        }
        int best = -1;
        int least = 0;
        for (int days = 0; days < 128; days++) {
            int sum = 0;
            int lies = 0;
            for (int d = 0; d < 7; d++) {
                lies += v;
                if ((days & 1 << d) != 0) {
                    lies = 0;
                }
                sum += lies;
            }
            if (Integer.bitCount(days) == k && (best < 0 || sum < least)) {
                best = days;
                least = sum;
            }
        }
        tell(best);
        return least;
    }

    private static String[] turned(String[] g) {
        String[] t = new String[g[0].length()];
        for (int r = 0; r < t.length; r++) {
            StringBuilder line = new StringBuilder();
            for (int c = g.length - 1; c >= 0; c--) {
                line.append(g[c].charAt(r));
            }
            t[r] = line.toString();
        }
        return t;
    }

    int looks() {
        String[] g = new String[rows()];
        String[] mirrored = new String[rows()];
        for (int r = 0; r < rows(); r++) {
            g[r] = grid[r].replace('p', '.').replace('q', 'r');
            mirrored[r] = new StringBuilder(g[r]).reverse().toString();
        }
        int bits = 0;
        String[] t = g;
        for (int q = 1; q < 4; q++) {
            t = turned(t);
            bits |= Arrays.equals(t, g) ? 1 << q : 0;
        }
        tell(Integer.bitCount(bits), Arrays.equals(mirrored, g) ? 1 : 0);
        return bits;
    }

    int box(int v) {
        if (v < 0 || v > 999) {
            return -1;
        }
        List<Integer> dusty = new ArrayList<>();
        for (int i = 0; i < spots(); i++) {
            if (s.dust[i] > 0) {
                dusty.add(i);
            }
        }
        if (dusty.size() > 20) {
            return -2;
        }
        Map<Integer, long[]> sums = new HashMap<>();
        sums.put(0, new long[] {1, 0});
        for (int spot : dusty) {
            Map<Integer, long[]> next = new HashMap<>();
            for (Map.Entry<Integer, long[]> e : sums.entrySet()) {
                put(next, e.getKey(), e.getValue()[0], e.getValue()[1]);
                put(next, e.getKey() + s.dust[spot], e.getValue()[0], e.getValue()[1] | 1L << spot);
            }
            sums = next;
        }
        long[] found = sums.getOrDefault(v, new long[] {0, 0});
        tell(found[1]);
        return (int) found[0];
    }

    private static void put(Map<Integer, long[]> sums, int sum, long ways, long always) {
        long[] was = sums.get(sum);
        sums.put(sum, was == null ? new long[] {ways, always} : new long[] {was[0] + ways, was[1] & always});
    }

    int clean(int k) {
        if (k < 1 || k > open()) {
            return -1;
        }
        long dusty = Arrays.stream(s.dust).filter(d -> d > 0).count();
        BigInteger upper = BigInteger.ONE;
        BigInteger lower = BigInteger.ONE;
        for (int i = 0; i < k; i++) {
            upper = upper.multiply(BigInteger.valueOf(Math.max(0, open() - dusty - i)));
            lower = lower.multiply(BigInteger.valueOf(open() - i));
        }
        tellFraction(upper, lower);
        return 0;
    }

    private static int has(int own, int other, int v) {
        return own == other ? 0 - (own + 5) : (own < other ? v : 0) - own;
    }

    int rests(int v) {
        if (v < 1 || v > 99) {
            return -1;
        }
        List<int[]> pairs = new ArrayList<>();
        for (int i = 0; i < 100; i++) {
            int x = i / 10;
            int y = i % 10;
            boolean rests = true;
            for (int z = 0; z < 10; z++) {
                rests &= has(z, y, v) <= has(x, y, v) && has(z, x, v) <= has(y, x, v);
            }
            if (rests) {
                pairs.add(new int[] {x, y});
            }
        }
        if (pairs.isEmpty()) {
            tell();
        } else {
            tell(pairs.get(0)[0], pairs.get(0)[1]);
        }
        return pairs.size();
    }

    private int r;

    private int draw(int n) {
        r = (int) (r * 1103515245L + 12345L);
        return (int) ((r & 0xffffffffL) / 65536L % n);
    }

    int weeks(int seed, int n) {
        if (n < 1 || n > 60) {
            return -1;
        }
        S m = s.copy();
        r = seed;
        for (int i = 0; i < n; i++) {
            int d = draw(8);
            if (d < 6) {
                step(m, false, 0);
                if (isRug(m.spot) && draw(4) == 0) {
                    m.heading = (m.heading + 1) % 4;
                }
            } else if (d == 6) {
                m.heading = (m.heading + 1) % 4;
            } else {
                day(m);
            }
        }
        tell(m.spot, dustOf(m));
        return m.box - s.box;
    }

    // kept

    boolean keep(int i) {
        if (i < 0 || i > 2) {
            return false;
        }
        kept[i] = s.copy();
        return true;
    }

    boolean again(int i) {
        if (i < 0 || i > 2 || kept[i] == null) {
            return false;
        }
        s = kept[i].copy();
        undo.clear();
        return true;
    }

    int count(int what) {
        int[] counts = {rows(), columns(), open(), s.chairs.size(), dustOf(s), plug(), s.day, things.size(), undo.size(),
            row.size(), text.length()};
        return what < 0 || what > 10 ? -100 : counts[what];
    }
}
