import java.io.ByteArrayInputStream;
import java.io.ByteArrayOutputStream;
import java.io.IOException;
import java.io.ObjectInputStream;
import java.io.ObjectOutputStream;
import java.io.Serializable;
import java.util.ArrayList;
import java.util.Arrays;
import java.util.Collections;
import java.util.HashMap;
import java.util.List;
import java.util.Map;
import java.util.TreeMap;
import java.util.regex.Matcher;
import java.util.regex.Pattern;

/** The document once more, as slow and as near to its words as can be; what the class answers is held against it. */
final class Model {
    private static final Pattern TOKEN = Pattern.compile("[A-Za-z]+|[0-9]+|[^ \n]", Pattern.DOTALL);
    private static final List<String> THING_WORDS = List.of("eye", "ear", "mouth");

    record Step(String kind, int thing, int number, int three) implements Serializable { }

    record Saying(int who, int fact, int said, int hearer, int minute) implements Serializable { }

    record Origin(boolean so, int who, int minute, int sayings, int lies) implements Serializable { }

    static final class Group implements Serializable {
        int hand;
        int drop;
        int handed;
        int dropped;
        int missed;
        int[] where = new int[3];
        List<Step> plan = new ArrayList<>();
        int next;
        int left;
        Step doing;
        boolean[][] lends = new boolean[3][3];
    }

    static final class Human implements Serializable {
        Map<Integer, Origin> known = new TreeMap<>();
        Map<Integer, Boolean> trusts = new TreeMap<>();
        int heard;
        int[] held = new int[3];
    }

    static final class State implements Serializable {
        int seed;
        int minute;
        int sunset = -1;
        boolean[] facts = new boolean[10];
        List<Group> groups = new ArrayList<>();
        List<Human> humans = new ArrayList<>();
        List<Integer> noises = new ArrayList<>();
        List<Saying> book = new ArrayList<>();
        List<Integer> watches = new ArrayList<>();
        int[][][] dangers = new int[12][3][3];
        int[] weights = new int[9];
        int[] times = {1, 1, 1, 1, 1, 1, 1, 1, 1};
    }

    private State s = new State();
    private byte[] image = null;
    private String tape = "";
    private int fault = 0;
    private int place = -1;

    int state(int v) {
        int was = s.seed;
        s.seed = v;
        return was;
    }

    private int draw(int m) {
        s.seed = (int) (1664525L * s.seed + 1013904223L);
        return (int) ((s.seed & 0xffffffffL) / 256 % m);
    }

    int three(int hand, int drop) {
        if (hand < 1 || hand > 9 || drop < 0 || drop > 1000 || s.groups.size() == 4) {
            return -1;
        }
        Group g = new Group();
        g.hand = hand;
        g.drop = drop;
        s.groups.add(g);
        for (int m = 0; m < 3; m++) {
            s.humans.add(new Human());
        }
        return s.groups.size() - 1;
    }

    private boolean isThree(int t) {
        return t >= 0 && t < s.groups.size();
    }

    private boolean isPerson(int p) {
        return p >= 0 && p < s.humans.size();
    }

    private static boolean isFact(int f) {
        return f >= 0 && f < 10;
    }

    private static boolean isThing(int x) {
        return x >= 0 && x < 3;
    }

    boolean fact(int f, boolean is) {
        if (!isFact(f)) {
            return false;
        }
        s.facts[f] = is;
        return true;
    }

    boolean trust(int p, int three, boolean does) {
        if (!isPerson(p) || !isThree(three)) {
            return false;
        }
        s.humans.get(p).trusts.put(three, does);
        return true;
    }

    int feed(int... words) {
        if (tape.length() + 20 > 400) {
            return -1;
        }
        for (int word : words) {
            for (int k = 3; k >= 0; k--) {
                tape += (char) (word >> 8 * k & 255);
            }
        }
        return tape.length();
    }

    boolean end(int n) {
        if (n < 0 || n > tape.length()) {
            return false;
        }
        tape = tape.substring(0, n);
        return true;
    }

    int text(int three) {
        String text = tape;
        tape = "";
        fault = 0;
        place = -1;
        if (!isThree(three)) {
            return -1;
        }
        List<Step> plan = parse(text);
        if (fault != 0) {
            return -1;
        }
        Group g = s.groups.get(three);
        g.plan = plan;
        g.next = 0;
        if (g.left > 0 && !g.doing.kind.equals("give")) {
            g.left = 0;
        }
        return plan.size();
    }

    private List<Step> parse(String text) {
        List<String> words = new ArrayList<>();
        List<Integer> places = new ArrayList<>();
        Matcher m = TOKEN.matcher(text);
        while (m.find()) {
            words.add(m.group());
            places.add(m.start());
        }
        words.add("");
        places.add(text.length());
        List<Step> plan = new ArrayList<>();
        int i = 0;
        while (i < words.size() - 1) {
            String form = switch (words.get(i)) {
                case "give" -> "tm";
                case "see" -> "f";
                case "say", "lie" -> "f>n";
                case "rest" -> "r";
                case "feel" -> "ts";
                default -> "";
            };
            if (form.isEmpty()) {
                return blame(1, places.get(i));
            }
            if (plan.size() == 30) {
                return blame(3, places.get(i));
            }
            String kind = words.get(i++);
            Map<Character, Integer> got = new HashMap<>();
            for (char want : (form + ";").toCharArray()) {
                String word = words.get(i);
                int wrong = wrongWith(word, want);
                if (wrong != 0) {
                    return blame(wrong, places.get(i));
                }
                if (Character.isDigit(word.charAt(0))) {
                    got.put(want, Integer.valueOf(word));
                } else if (want == 't') {
                    got.put(want, THING_WORDS.indexOf(word));
                }
                i++;
            }
            int number = 0;
            for (char c : "mfrs".toCharArray()) {
                number += got.getOrDefault(c, 0);
            }
            plan.add(new Step(kind, got.getOrDefault('t', -1), number, got.getOrDefault('n', -1)));
        }
        return plan;
    }

    private List<Step> blame(int which, int where) {
        fault = which;
        place = where;
        return null;
    }

    private int wrongWith(String word, char want) {
        switch (want) {
            case ';': return word.equals(";") ? 0 : 1;
            case '>': return word.equals("to") ? 0 : 1;
            case 't': return THING_WORDS.contains(word) ? 0 : 1;
            default: break;
        }
        if (!word.matches("[0-9]{1,4}")) {
            return 1;
        }
        int v = Integer.parseInt(word);
        int most = switch (want) {
            case 'm' -> 2;
            case 'f' -> 9;
            case 'n' -> s.groups.size() - 1;
            case 'r' -> 99;
            default -> 8;
        };
        return v > most || want == 'r' && v == 0 ? 2 : 0;
    }

    int fault(int what) {
        return what == 0 ? fault : what == 1 ? place : -1;
    }

    int minutes(int n) {
        if (n < 1 || n > 1000 || s.minute + n > 99999) {
            return -1;
        }
        for (int i = 0; i < n; i++) {
            minute();
        }
        return s.minute;
    }

    private void minute() {
        if (s.minute % 240 == 0) {
            s.sunset = draw(61) + 120;
        }
        for (int t = 0; t < s.groups.size(); t++) {
            Group g = s.groups.get(t);
            if (g.left > 0) {
                g.left--;
                if (g.left == 0) {
                    done(g);
                }
            } else if (g.next < g.plan.size()) {
                Step step = g.plan.get(g.next);
                g.next++;
                begin(t, g, step);
            }
        }
        for (int noise : s.noises) {
            if (noise == s.minute) {
                for (int t = 0; t < s.groups.size(); t++) {
                    int ear = s.groups.get(t).where[1];
                    if (ear < 3) {
                        s.humans.get(3 * t + ear).heard++;
                    } else {
                        s.groups.get(t).missed++;
                    }
                }
            }
        }
        for (int t = 0; t < s.groups.size(); t++) {
            for (int x = 0; x < 3; x++) {
                int at = s.groups.get(t).where[x];
                if (at < 3) {
                    s.humans.get(3 * t + at).held[x]++;
                }
            }
        }
        s.minute++;
    }

    private void begin(int t, Group g, Step step) {
        switch (step.kind) {
            case "give" -> {
                if (g.where[step.thing] < 3 && g.where[step.thing] != step.number) {
                    g.where[step.thing] = 3;
                    last(g, step, g.hand);
                }
            }
            case "see" -> {
                if (s.minute % 240 < s.sunset && g.where[0] < 3) {
                    int p = 3 * t + g.where[0];
                    s.humans.get(p).known.put(step.number, new Origin(s.facts[step.number], p, s.minute, 0, 0));
                }
            }
            case "say", "lie" -> speak(t, g, step);
            case "rest" -> last(g, step, step.number);
            default -> last(g, step, 2);
        }
    }

    private void speak(int t, Group g, Step step) {
        Group other = s.groups.get(step.three);
        if (g.where[2] > 2 || other.where[1] > 2) {
            return;
        }
        int p = 3 * t + g.where[2];
        int q = 3 * step.three + other.where[1];
        Origin o = s.humans.get(p).known.get(step.number);
        if (o == null) {
            return;
        }
        int lie = step.kind.equals("lie") ? 1 : 0;
        boolean so = o.so ^ lie == 1;
        if (s.book.size() < 99) {
            s.book.add(new Saying(p, step.number, so ? 1 : 0, q, s.minute));
        }
        if (s.humans.get(q).trusts.getOrDefault(t, true)) {
            s.humans.get(q).known.put(step.number, new Origin(so, o.who, o.minute, o.sayings + 1, o.lies + lie));
        }
    }

    private void last(Group g, Step step, int minutes) {
        g.doing = step;
        g.left = minutes - 1;
        if (g.left == 0) {
            done(g);
        }
    }

    private void done(Group g) {
        Step step = g.doing;
        if (step.kind.equals("give")) {
            g.handed++;
            boolean falls = g.drop > 0 && draw(1000) < g.drop;
            if (falls) {
                g.dropped++;
                g.where[step.thing] = 10 + draw(9);
            } else {
                g.where[step.thing] = step.number;
            }
        }
        if (step.kind.equals("feel") && g.where[step.thing] == 10 + step.number) {
            List<Integer> free = new ArrayList<>(List.of(0, 1, 2));
            for (int at : g.where) {
                free.remove(Integer.valueOf(at));
            }
            g.where[step.thing] = free.isEmpty() ? 0 : free.get(0);
        }
    }

    int where(int three, int thing) {
        return isThree(three) && isThing(thing) ? s.groups.get(three).where[thing] : -1;
    }

    int knows(int p, int f) {
        if (!isPerson(p) || !isFact(f)) {
            return -1;
        }
        Origin o = s.humans.get(p).known.get(f);
        return o == null ? 0 : o.so ? 1 : 2;
    }

    int origin(int p, int f, int what) {
        if (knows(p, f) < 1) {
            return -1;
        }
        Origin o = s.humans.get(p).known.get(f);
        return switch (what) {
            case 0 -> o.who;
            case 1 -> o.minute;
            case 2 -> o.sayings;
            case 3 -> o.lies;
            default -> -1;
        };
    }

    int noise(int minute) {
        if (minute < s.minute || minute > 99999 || s.noises.size() == 20) {
            return -1;
        }
        s.noises.add(minute);
        return s.noises.size() - 1;
    }

    int heard(int p) {
        return isPerson(p) ? s.humans.get(p).heard : -1;
    }

    int held(int p, int thing) {
        return isPerson(p) && isThing(thing) ? s.humans.get(p).held[thing] : -1;
    }

    int of(int three, int what) {
        if (!isThree(three) || what < 0 || what > 7) {
            return -1;
        }
        Group g = s.groups.get(three);
        return List.of(g.hand, g.drop, g.handed, g.dropped, g.plan.size(), g.next, g.left, g.missed).get(what);
    }

    int book(int i, int what) {
        if (i < 0 || i >= s.book.size() || what < 0 || what > 4) {
            return -1;
        }
        Saying line = s.book.get(i);
        return List.of(line.who, line.fact, line.said, line.hearer, line.minute).get(what);
    }

    private int[] settled(int t) {
        Group g = s.groups.get(t);
        int[] at = new int[3];
        for (int x = 0; x < 3; x++) {
            at[x] = g.where[x] < 3 ? g.where[x] : g.where[x] == 3 ? g.doing.number : 0;
        }
        return at;
    }

    int errand(int t, int f, int u, int what) {
        if (!isThree(t) || !isThree(u) || t == u || !isFact(f) || what < 0 || what > 1) {
            return -1;
        }
        if (knows(3 * u + settled(u)[1], f) > 0) {
            return 0;
        }
        int give = what == 0 ? s.groups.get(t).hand : 1;
        int act = what == 0 ? 1 : 0;
        int[] at = settled(t);
        int knowers = knows(3 * t, f) > 0 ? 1 : 0;
        knowers += knows(3 * t + 1, f) > 0 ? 2 : 0;
        knowers += knows(3 * t + 2, f) > 0 ? 4 : 0;
        // Bellman and Ford's way: all costs are made less till none can be; 999 is far.
        int[] cost = new int[217 * 8];
        Arrays.fill(cost, 999);
        cost[(at[0] * 9 + at[1] * 3 + at[2]) * 8 + knowers] = 0;
        int best = 999;
        boolean less = true;
        while (less) {
            less = false;
            for (int e = 0; e < 3; e++) {
                for (int a = 0; a < 3; a++) {
                    for (int m = 0; m < 3; m++) {
                        for (int k = 0; k < 8; k++) {
                            int c = cost[(e * 9 + a * 3 + m) * 8 + k];
                            if (c == 999) {
                                continue;
                            }
                            if ((k >> m & 1) == 1) {
                                best = Math.min(best, c + act);
                                less |= lower(cost, e, a, m, k | 1 << a, c + act);
                            }
                            less |= lower(cost, e, a, m, k | 1 << e, c + act);
                            for (int v = 0; v < 3; v++) {
                                less |= lower(cost, v, a, m, k, c + give);
                                less |= lower(cost, e, v, m, k, c + give);
                                less |= lower(cost, e, a, v, k, c + give);
                            }
                        }
                    }
                }
            }
        }
        return best;
    }

    private static boolean lower(int[] cost, int e, int a, int m, int k, int c) {
        int i = (e * 9 + a * 3 + m) * 8 + k;
        if (c < cost[i]) {
            cost[i] = c;
            return true;
        }
        return false;
    }

    int talk(int t, int u, int f) {
        if (!isThree(t) || !isThree(u) || t == u || !isFact(f)) {
            return -1;
        }
        int knowers = 0;
        for (int m = 0; m < 3; m++) {
            knowers |= knows(3 * t + m, f) > 0 ? 1 << m : 0;
            knowers |= knows(3 * u + m, f) > 0 ? 8 << m : 0;
        }
        if (knowers == 0) {
            return -1;
        }
        int[] a = settled(t);
        int[] b = settled(u);
        int[] start = {a[1], a[2], 3 + b[1], 3 + b[2], knowers};
        List<int[]> row = new ArrayList<>(List.of(start));
        Map<Integer, Integer> acts = new HashMap<>(Map.of(number(start), 0));
        for (int i = 0; i < row.size(); i++) {
            int[] now = row.get(i);
            int gone = acts.get(number(now));
            if (now[4] == 63) {
                return gone;
            }
            for (int x = 0; x < 4; x++) {
                for (int m = 0; m < 3; m++) {
                    int[] next = now.clone();
                    next[x] = x / 2 * 3 + m;
                    if (acts.putIfAbsent(number(next), gone + 1) == null) {
                        row.add(next);
                    }
                }
            }
            for (int mouth = 1; mouth < 4; mouth += 2) {
                for (int ear = 0; ear < 4; ear += 2) {
                    int[] next = now.clone();
                    if ((now[4] >> now[mouth] & 1) == 1) {
                        next[4] |= 1 << now[ear];
                    }
                    if (acts.putIfAbsent(number(next), gone + 1) == null) {
                        row.add(next);
                    }
                }
            }
        }
        return -1;
    }

    private static int number(int[] at) {
        int n = 0;
        for (int v : at) {
            n = n * 64 + v;
        }
        return n;
    }

    boolean danger(int place, int member, int thing, int v) {
        if (place < 0 || place > 11 || !isThing(member) || !isThing(thing) || v < 0 || v > 9) {
            return false;
        }
        s.dangers[place][member][thing] = v;
        return true;
    }

    int way(int n, int toll, int what) {
        if (n < 1 || n > 12 || toll < 0 || toll > 9 || what != 0 && (what < 10 || what >= 10 + n)) {
            return -1;
        }
        // Of each of the 27 at the first PLACE looked at the best way from there on, as least, then first.
        int[] cost = new int[27];
        int[][] path = new int[27][0];
        for (int place = n - 1; place >= 0; place--) {
            int[] newCost = new int[27];
            int[][] newPath = new int[27][];
            for (int h = 0; h < 27; h++) {
                int best = 0;
                int[] bestPath = new int[0];
                if (place < n - 1) {
                    best = Integer.MAX_VALUE;
                    for (int k = 0; k < 27; k++) {
                        int moved = (h / 9 != k / 9 ? 1 : 0) + (h / 3 % 3 != k / 3 % 3 ? 1 : 0) + (h % 3 != k % 3 ? 1 : 0);
                        if (cost[k] + toll * moved < best) {
                            best = cost[k] + toll * moved;
                            bestPath = path[k];
                        }
                    }
                }
                int[][] d = s.dangers[place];
                newCost[h] = best + d[h / 9][0] + d[h / 3 % 3][1] + d[h % 3][2];
                newPath[h] = new int[bestPath.length + 1];
                newPath[h][0] = h;
                System.arraycopy(bestPath, 0, newPath[h], 1, bestPath.length);
            }
            cost = newCost;
            path = newPath;
        }
        int best = 0;
        for (int h = 1; h < 27; h++) {
            if (cost[h] < cost[best]) {
                best = h;
            }
        }
        return what == 0 ? cost[best] : path[best][what - 10];
    }

    boolean spot(int spot, int weight, int time) {
        if (spot < 0 || spot > 8 || weight < 0 || weight > 99 || time < 1 || time > 9) {
            return false;
        }
        s.weights[spot] = weight;
        s.times[spot] = time;
        return true;
    }

    int felt() {
        // Of each set of SPOTS the least sum if one feels them in the best order, by which is felt last.
        int[] least = new int[512];
        for (int set = 1; set < 512; set++) {
            int whole = 0;
            for (int i = 0; i < 9; i++) {
                whole += (set >> i & 1) * s.times[i];
            }
            least[set] = Integer.MAX_VALUE;
            for (int last = 0; last < 9; last++) {
                if ((set >> last & 1) == 1) {
                    least[set] = Math.min(least[set], least[set ^ 1 << last] + s.weights[last] * whole);
                }
            }
        }
        int best = Integer.MAX_VALUE;
        for (int set = 0; set < 512; set++) {
            best = Math.min(best, least[set] + least[511 ^ set]);
        }
        return best;
    }

    int liars() {
        int best = -1;
        for (int set = 0; set < 4096; set++) {
            if (agreeWithout(set) && (best < 0 || Integer.bitCount(set) < Integer.bitCount(best))) {
                best = set;
            }
        }
        return best;
    }

    private boolean agreeWithout(int set) {
        int[] said = new int[10];
        for (Saying line : s.book) {
            if ((set >> line.who & 1) == 0) {
                said[line.fact] |= line.said == 1 ? 1 : 2;
            }
        }
        for (int f = 0; f < 10; f++) {
            if (said[f] == 3) {
                return false;
            }
        }
        return true;
    }

    int watch(int minutes) {
        if (minutes < 1 || minutes > 99 || s.watches.size() == 9) {
            return -1;
        }
        s.watches.add(minutes);
        return s.watches.size() - 1;
    }

    int watches(int what) {
        int n = s.watches.size();
        if (what != 0 && (what < 10 || what >= 10 + n)) {
            return -1;
        }
        int ways = 1;
        for (int i = 0; i < n; i++) {
            ways *= 3;
        }
        int best = Integer.MAX_VALUE;
        int[] bestWay = null;
        for (int w = 0; w < ways; w++) {
            int[] way = new int[n];
            Integer[] load = {0, 0, 0};
            int rest = w;
            for (int i = n - 1; i >= 0; i--) {
                way[i] = rest % 3;
                rest /= 3;
                load[way[i]] += s.watches.get(i);
            }
            int spread = Collections.max(Arrays.asList(load)) - Collections.min(Arrays.asList(load));
            if (spread < best) {
                best = spread;
                bestWay = way;
            }
        }
        return what == 0 ? best : bestWay[what - 10];
    }

    boolean lends(int three, int x, int y, boolean would) {
        if (!isThree(three) || !isThing(x) || !isThing(y) || x == y) {
            return false;
        }
        s.groups.get(three).lends[x][y] = would;
        return true;
    }

    int ring() {
        int best = -1;
        int n = s.groups.size();
        for (int size = 2; size <= n && best < 0; size++) {
            int orders = 1;
            for (int i = 0; i < size; i++) {
                orders *= n * 3;
            }
            for (int o = 0; o < orders; o++) {
                int[] who = new int[size];
                int[] lent = new int[size];
                int rest = o;
                int set = 0;
                for (int i = 0; i < size; i++) {
                    who[i] = rest % n;
                    rest /= n;
                    lent[i] = rest % 3;
                    rest /= 3;
                    set |= 1 << who[i];
                }
                if (Integer.bitCount(set) == size && (best < 0 || set < best) && closes(who, lent)) {
                    best = set;
                }
            }
        }
        return best;
    }

    private boolean closes(int[] who, int[] lent) {
        for (int i = 0; i < who.length; i++) {
            int got = lent[(i + who.length - 1) % who.length];
            if (!s.groups.get(who[i]).lends[lent[i]][got]) {
                return false;
            }
        }
        return true;
    }

    boolean image(boolean taken) {
        try {
            if (taken) {
                ByteArrayOutputStream bytes = new ByteArrayOutputStream();
                new ObjectOutputStream(bytes).writeObject(s);
                image = bytes.toByteArray();
            } else if (image == null) {
                return false;
            } else {
                s = (State) new ObjectInputStream(new ByteArrayInputStream(image)).readObject();
            }
        } catch (IOException | ClassNotFoundException e) {
            throw new IllegalStateException(e);
        }
        return true;
    }

    int look(int what) {
        return switch (what) {
            case 0 -> s.groups.size();
            case 1 -> s.minute;
            case 2 -> s.book.size();
            case 3 -> s.watches.size();
            case 4 -> s.seed;
            case 5 -> s.sunset;
            case 6 -> s.noises.size();
            default -> what >= 10 && what < 20 ? s.facts[what - 10] ? 1 : 0 : -1;
        };
    }
}
