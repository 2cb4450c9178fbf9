import java.math.BigInteger;
import java.util.ArrayList;
import java.util.HashMap;
import java.util.List;
import java.util.Map;
import java.util.TreeMap;

/** The document once more, by the Java library and by trying things out, to hold the class against. */
final class Oracle {
    static final int UNKNOWN = -1, OUTSIDE = -2, STATE = -3, FULL = -4, NO = -5, NONE = -6;
    static final long GONE = -1000000000000000000L;
    private static final String WHOLE_ACT = "[!.]|[A-F][bhx]|[A-F]>[A-F]";

    private static final class Person {
        int looks, pace, youth, eaten;

        Person(int looks, int pace, int youth, int eaten) {
            this.looks = looks;
            this.pace = pace;
            this.youth = youth;
            this.eaten = eaten;
        }

        Person copy() {
            return new Person(looks, pace, youth, eaten);
        }

        void morning() {
            if (eaten == 2) {
                looks -= pace;
            } else if (eaten == 0) {
                looks += pace;
            }
            looks = Math.min(99, Math.max(youth, looks));
            eaten = 0;
        }

        int after(int halves) {
            Person p = copy();
            p.eaten = halves;
            p.morning();
            return p.looks;
        }
    }

    private static final class World {
        final TreeMap<Integer, Person> people = new TreeMap<>();
        int basket = 0, grown = 12;
        boolean she = true;
        List<int[]> sights = new ArrayList<>();

        World copy() {
            World w = new World();
            for (Map.Entry<Integer, Person> e : people.entrySet()) {
                w.people.put(e.getKey(), e.getValue().copy());
            }
            w.basket = basket;
            w.grown = grown;
            w.she = she;
            w.sights = new ArrayList<>(sights);
            return w;
        }

        /** Does an act, or answers why it can not be. */
        int act(String act) {
            char last = act.charAt(act.length() - 1);
            if (act.equals("!")) {
                she = !she;
                return 0;
            }
            if (act.equals(".")) {
                for (Person p : people.values()) {
                    p.morning();
                }
                basket = she ? grown : 0;
                return 0;
            }
            Person p = people.get(act.charAt(0) - 'A');
            if (act.length() == 3) {
                Person q = people.get(last - 'A');
                List<Integer> reasons = new ArrayList<>();
                if (p == null || q == null) reasons.add(1);
                if (act.charAt(0) == last) reasons.add(2);
                if (q != null && q.eaten == 2) reasons.add(3);
                if (p != null && p.eaten == 0) reasons.add(5);
                if (!reasons.isEmpty()) {
                    return reasons.get(0);
                }
                p.eaten -= 1;
                q.eaten += 1;
                return 0;
            }
            if (p == null) {
                return 1;
            }
            if (last == 'x') {
                people.remove(act.charAt(0) - 'A');
                return 0;
            }
            int halves = last == 'b' ? 2 : 1;
            if (p.eaten + halves >= 3) {
                return 3;
            }
            if (basket - halves <= -1) {
                return 4;
            }
            p.eaten += halves;
            basket -= halves;
            return 0;
        }

        int oldest() {
            int most = people.values().stream().mapToInt(p -> p.looks).max().orElse(-1);
            return people.keySet().stream().filter(k -> people.get(k).looks == most).findFirst().orElse(NONE);
        }
    }

    private World world = new World();
    private String pad = "";
    private final World[] images = new World[2];

    int one(int one, int looks, int pace, int youth) {
        if (one < 0 || one > 5) return UNKNOWN;
        if (looks < 0 || looks > 99 || pace < 1 || pace > 9 || youth < 0 || youth > looks) return OUTSIDE;
        world.people.put(one, new Person(looks, pace, youth, 0));
        return world.people.size();
    }

    int leave(int one) {
        return world.people.remove(one) == null ? UNKNOWN : world.people.size();
    }

    int set(int which, int v) {
        int was;
        switch (which) {
            case 0:
                if (v < 0 || v > 99) return OUTSIDE;
                was = world.basket;
                world.basket = v;
                return was;
            case 1:
                if (v < 0 || v > 40) return OUTSIDE;
                was = world.grown;
                world.grown = v;
                return was;
            case 2:
                if (v < 0 || v > 1) return OUTSIDE;
                was = world.she ? 1 : 0;
                world.she = v == 1;
                return was;
            default:
                return OUTSIDE;
        }
    }

    int say(int sign) {
        if (sign < 33 || sign > 126) return OUTSIDE;
        if (pad.length() == 60) return FULL;
        pad += (char) sign;
        return pad.length();
    }

    int wipe() {
        int were = pad.length();
        pad = "";
        return were;
    }

    int fault() {
        String whole = "(?:" + WHOLE_ACT + ")*";
        for (int i = 1; i <= pad.length(); i++) {
            if (!pad.substring(0, i).matches(whole + "(?:[A-F]>?)?")) {
                return i - 1;
            }
        }
        return pad.matches(whole) ? NONE : pad.length();
    }

    private List<String> acts() {
        List<String> acts = new ArrayList<>();
        java.util.regex.Matcher m = java.util.regex.Pattern.compile(WHOLE_ACT).matcher(pad);
        while (m.find()) {
            acts.add(m.group());
        }
        return acts;
    }

    /** The worlds ahead of each act and behind the last one; it ends ahead of the first act that can not be. */
    private List<World> worlds() {
        List<World> worlds = new ArrayList<>();
        worlds.add(world.copy());
        for (String act : acts()) {
            World next = worlds.get(worlds.size() - 1).copy();
            if (next.act(act) != 0) {
                return worlds;
            }
            worlds.add(next);
        }
        return worlds;
    }

    private int refusal() {
        if (fault() != NONE) return NO;
        return worlds().size() <= acts().size() ? STATE : 0;
    }

    private World end() {
        List<World> worlds = worlds();
        return worlds.get(worlds.size() - 1);
    }

    int judge(int what) {
        if (what < 0 || what > 2) return OUTSIDE;
        if (fault() != NONE) return NO;
        List<String> acts = acts();
        int at = worlds().size() - 1;
        if (what == 2) {
            return at < acts.size() ? STATE : (int) acts.stream().filter(a -> a.equals(".")).count();
        }
        if (at == acts.size()) return NONE;
        return what == 0 ? at : end().copy().act(acts.get(at));
    }

    int behind(int one, int what) {
        if (what != 0 && what != 1) return OUTSIDE;
        if (refusal() != 0) return refusal();
        Person p = end().people.get(one);
        if (p == null) return UNKNOWN;
        return what == 0 ? p.looks : p.eaten;
    }

    int basket() {
        return refusal() != 0 ? refusal() : end().basket;
    }

    int passed(int what) {
        if (what != 0 && what != 1) return OUTSIDE;
        if (refusal() != 0) return refusal();
        List<World> worlds = worlds();
        List<String> acts = acts();
        int morning = 0;
        for (int i = 0; i < acts.size(); i++) {
            if (acts.get(i).equals(".")) {
                for (int pair = 1; pair <= 45; pair++) {
                    int a = pair / 10;
                    int b = pair % 10;
                    World w = worlds.get(i);
                    World v = worlds.get(i + 1);
                    if (a < b && w.people.containsKey(a) && w.people.containsKey(b)) {
                        int was = w.people.get(a).looks - w.people.get(b).looks;
                        int is = v.people.get(a).looks - v.people.get(b).looks;
                        if (was * is < 0) return what == 0 ? morning : pair;
                    }
                }
                morning++;
            }
        }
        return NONE;
    }

    int oldest(int morning) {
        if (refusal() != 0) return refusal();
        List<World> worlds = worlds();
        List<String> acts = acts();
        List<Integer> told = new ArrayList<>();
        for (int i = 0; i < acts.size(); i++) {
            if (acts.get(i).equals(".")) told.add(worlds.get(i + 1).oldest());
        }
        return morning < 0 || morning >= told.size() ? UNKNOWN : told.get(morning);
    }

    int done() {
        if (refusal() != 0) return refusal();
        int acts = acts().size();
        List<int[]> sights = world.sights;
        world = end();
        world.sights = sights;
        pad = "";
        return acts;
    }

    int lasts(int one, int v) {
        Person p = world.people.get(one);
        if (p == null) return UNKNOWN;
        if (v < 0 || v > 99) return OUTSIDE;
        if (p.looks > v) return NONE;
        Person q = p.copy();
        for (int mornings = 0; mornings < 100; mornings++) {
            q.eaten = 0;
            q.morning();
            if (q.looks > v) return mornings;
        }
        return 100;
    }

    private int refuseKeeping(int set, int m, int n, int v) {
        if (set < 0 || set > 63) return UNKNOWN;
        for (int one = 0; one < 6; one++) {
            if ((set & 1 << one) != 0 && !world.people.containsKey(one)) return UNKNOWN;
        }
        if (m < 0 || m > 6 || n < 0 || n > 6 || v < 0 || v > 99) return OUTSIDE;
        return Integer.bitCount(set) > 3 ? FULL : 0;
    }

    private List<Integer> members(int set) {
        List<Integer> members = new ArrayList<>();
        for (int one = 0; one < 6; one++) {
            if ((set & 1 << one) != 0) members.add(one);
        }
        return members;
    }

    /** The least row of the fewest halves from these looks on for so many days, behind its sum; null: no way. */
    private List<Integer> best(List<Integer> members, List<Integer> looks, int m, int n, int v,
            Map<List<Integer>, List<Integer>> known) {
        if (m == 0) return List.of(0);
        List<Integer> key = new ArrayList<>(looks);
        key.add(m);
        if (known.containsKey(key)) return known.get(key);
        List<Integer> best = null;
        int ways = (int) Math.pow(3, members.size());
        for (int way = 0; way < ways; way++) {
            List<Integer> row = new ArrayList<>();
            List<Integer> next = new ArrayList<>();
            int sum = 0;
            int rest = way;
            int scale = ways / 3;
            for (int i = 0; i < members.size(); i++) {
                int eats = rest / scale;
                rest %= scale;
                scale = Math.max(1, scale / 3);
                Person p = world.people.get(members.get(i)).copy();
                p.looks = looks.get(i);
                row.add(eats);
                sum += eats;
                next.add(p.after(eats));
            }
            if (sum > n || next.stream().anyMatch(l -> l > v)) continue;
            List<Integer> behind = best(members, next, m - 1, n, v, known);
            if (behind != null && (best == null || sum + behind.get(0) < best.get(0))) {
                best = new ArrayList<>();
                best.add(sum + behind.get(0));
                best.addAll(row);
                best.addAll(behind.subList(1, behind.size()));
            }
        }
        known.put(key, best);
        return best;
    }

    private List<Integer> best(int set, int m, int n, int v) {
        List<Integer> looks = new ArrayList<>();
        for (int one : members(set)) looks.add(world.people.get(one).looks);
        return best(members(set), looks, m, n, v, new HashMap<>());
    }

    /** What is eaten in the first way by the fewest, as digits by days, then by ONES; null: there is no way. */
    String row(int set, int m, int n, int v) {
        List<Integer> best = best(set, m, n, v);
        StringBuilder row = new StringBuilder();
        for (int i = 1; best != null && i < best.size(); i++) {
            row.append(best.get(i));
        }
        return best == null ? null : row.toString();
    }

    int keeps(int set, int m, int n, int v) {
        int refusal = refuseKeeping(set, m, n, v);
        if (refusal != 0) return refusal;
        List<Integer> best = best(set, m, n, v);
        return best == null ? NONE : best.get(0);
    }

    int plan(int set, int m, int n, int v, int day, int one) {
        int refusal = refuseKeeping(set, m, n, v);
        if (refusal != 0) return refusal;
        int at = members(set).indexOf(one);
        if (at < 0 || day < 0 || day >= m) return UNKNOWN;
        List<Integer> best = best(set, m, n, v);
        return best == null ? NONE : best.get(1 + day * members(set).size() + at);
    }

    int envy(int c, int what) {
        if (c < 0 || c > 12 || what < 0 || what > 1) return OUTSIDE;
        int count = 0;
        int first = NONE;
        for (int share = 0; share < 4096; share++) {
            int digits = 0;
            int sum = 0;
            boolean fits = true;
            int[] gets = new int[6];
            for (int one = 0; one < 6; one++) {
                gets[one] = share >> 2 * (5 - one) & 3;
                fits &= world.people.containsKey(one) == (gets[one] < 3);
                sum += gets[one] < 3 ? gets[one] : 0;
                digits = digits * 10 + gets[one];
            }
            for (int a = 0; a < 6 && fits && sum == c; a++) {
                for (int b = 0; b < 6 && fits; b++) {
                    Person p = world.people.get(a);
                    Person q = world.people.get(b);
                    if (p != null && q != null && q.looks >= p.looks && p.after(gets[a]) > q.after(gets[b])) fits = false;
                }
            }
            if (fits && sum == c) {
                count++;
                if (first == NONE) first = digits;
            }
        }
        return what == 0 ? count : first;
    }

    int refuses(int m) {
        if (m < 0 || m > 60) return OUTSIDE;
        int more = 0;
        for (Person p : world.people.values()) {
            Person away = p.copy();
            Person fed = p.copy();
            for (int i = 0; i < m; i++) {
                away.eaten = 0;
                fed.eaten = 2;
                away.morning();
                fed.morning();
            }
            more += away.looks - fed.looks;
        }
        return more;
    }

    int seen(int one, int v) {
        if (!world.people.containsKey(one)) return UNKNOWN;
        if (v < 0 || v > 99) return OUTSIDE;
        if (world.sights.size() == 8) return FULL;
        world.sights.add(new int[] {one, v});
        return world.sights.size();
    }

    int forget() {
        int were = world.sights.size();
        world.sights.clear();
        return were;
    }

    private boolean fits(int giver, List<int[]> sights) {
        for (int[] sight : sights) {
            Person p = world.people.get(sight[0]);
            if (p == null || p.after(giver == sight[0] ? 1 : 2) != sight[1]) return false;
        }
        return true;
    }

    /** The givers that fit, nobody as -1. */
    private List<Integer> givers(List<int[]> sights) {
        List<Integer> givers = new ArrayList<>();
        for (int giver = -1; giver < 6; giver++) {
            if ((giver < 0 || world.people.containsKey(giver)) && fits(giver, sights)) givers.add(giver);
        }
        return givers;
    }

    int gave(int what) {
        if (what != 0 && what != 1) return OUTSIDE;
        List<Integer> givers = givers(world.sights);
        if (what == 0) return givers.size();
        int bits = 0;
        for (int giver : givers) bits |= giver < 0 ? 0 : 1 << giver;
        return bits;
    }

    int ask(int what) {
        if (what != 0 && what != 1) return OUTSIDE;
        if (givers(world.sights).isEmpty() || world.people.isEmpty()) return NONE;
        int best = NONE;
        int fewest = 99;
        for (int one : world.people.keySet()) {
            int most = 0;
            for (int v = 0; v < 100; v++) {
                List<int[]> sights = new ArrayList<>(world.sights);
                sights.add(new int[] {one, v});
                most = Math.max(most, givers(sights).size());
            }
            if (most < fewest) {
                fewest = most;
                best = one;
            }
        }
        return what == 0 ? best : fewest;
    }

    int thieves(int n, int k, int what) {
        if (n < 1 || n > 99 || k < 1 || k > 9 || what < 0 || what > 1) return OUTSIDE;
        int[] take = new int[n + 1]; // 0: who is to take loses
        for (int left = 1; left <= n; left++) {
            for (int t = k; t >= 1; t--) {
                if (t < left && take[left - t] == 0) take[left] = t;
            }
        }
        if (what == 0) return take[n] > 0 ? 1 : 0;
        return take[n] > 0 ? take[n] : NONE;
    }

    private BigInteger worms(Person p, int a, int t, int v) {
        if (a == 0) return BigInteger.valueOf(v == -1 ? p.looks : p.looks <= v ? 1 : 0);
        Person bad = p.copy();
        Person good = p.copy();
        bad.looks = p.after(0);
        good.looks = p.after(2);
        return worms(bad, a - 1, t, v).multiply(BigInteger.valueOf(t))
            .add(worms(good, a - 1, t, v).multiply(BigInteger.valueOf(10 - t)));
    }

    long worms(int one, int a, int t, int v, int part) {
        Person p = world.people.get(one);
        if (p == null) return GONE + UNKNOWN;
        if (a < 0 || a > 6 || t < 0 || t > 10 || v < -1 || v > 99 || part < 0 || part > 1) return GONE + OUTSIDE;
        BigInteger upper = worms(p, a, t, v);
        BigInteger lower = BigInteger.TEN.pow(a);
        BigInteger common = upper.gcd(lower);
        return (part == 0 ? upper : lower).divide(common).longValueExact();
    }

    int year(int seed, int m, int what) {
        if (seed < 0 || seed > 9999 || m < 1 || m > 99 || what < 0 || what > 2) return OUTSIDE;
        World w = world.copy();
        long x = seed;
        int mornings = 0;
        for (int i = 0; i < m; i++) {
            x = (75 * x + 74) % 65537;
            String who = String.valueOf((char) ('A' + x % 6));
            String to = String.valueOf((char) ('A' + x / 42 % 6));
            String[] acts = {who + "b", who + "b", who + "h", who + "h", who + ">" + to, ".", "!"};
            String act = acts[(int) (x / 6 % 7)];
            w.act(act);
            mornings += act.equals(".") ? 1 : 0;
        }
        if (what == 0) return w.people.values().stream().mapToInt(p -> p.looks).sum();
        return what == 1 ? w.oldest() : mornings;
    }

    int image(int k) {
        if (k != 0 && k != 1) return OUTSIDE;
        images[k] = world.copy();
        return 1;
    }

    int restore(int k) {
        if (k != 0 && k != 1) return OUTSIDE;
        if (images[k] == null) return STATE;
        world = images[k].copy();
        return 1;
    }

    int told(int what) {
        switch (what) {
            case 0: return pad.length();
            case 1: return world.people.keySet().stream().mapToInt(k -> 1 << k).sum();
            case 2: return world.basket;
            case 3: return world.grown;
            case 4: return world.she ? 1 : 0;
            case 5: return world.sights.size();
            default: break;
        }
        for (Map.Entry<Integer, Person> e : world.people.entrySet()) {
            Person p = e.getValue();
            int[] of = {p.looks, p.pace, p.youth, p.eaten};
            for (int i = 0; i < of.length; i++) {
                if (what == 10 * (1 + e.getKey()) + i) return of[i];
            }
        }
        return OUTSIDE;
    }
}
