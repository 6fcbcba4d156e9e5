import java.util.ArrayList;
import java.util.Comparator;
import java.util.HashMap;
import java.util.List;
import java.util.Map;
import java.util.TreeSet;
import java.util.function.Predicate;

/**
 * The document a second time, in another way and with no thought of cost: maps, sets, lists and plain search.
 * ModelTest compares what it answers with what HotSprings answers.
 */
final class Model {
    static final int NONE = -1, BAD = -2, STATE = -3, FULL = -4;

    record Sale(int taker, int by, int to, int day) { }
    record Look(int tap, int day, int gallons, int heat) { }
    record Push(int cell, int strength) { }
    record Taker(int kind, int tap, int n, int heat, int since, TreeSet<Integer> used) { }
    record Clause(int word, int n, Predicate<Taker> holds) { }
    record Order(int number, int from, List<Clause> clauses) { }

    static final class Tap {
        int kind, cell, n, length, scale, from;
        boolean shut;
        final Map<Integer, int[]> days = new HashMap<>();

        Tap copy() {
            Tap t = new Tap();
            t.kind = kind; t.cell = cell; t.n = n; t.length = length; t.scale = scale; t.from = from; t.shut = shut;
            t.days.putAll(days);
            return t;
        }
    }

    int today = 0;
    int[][] under = new int[4][30];
    List<Tap> taps = new ArrayList<>();
    String tape = "";
    List<Order> orders = new ArrayList<>();
    List<Taker> takers = new ArrayList<>();
    List<Sale> sales = new ArrayList<>();
    List<Look> looks = new ArrayList<>();
    Map<Integer, Integer> drops = new HashMap<>();
    Map<Integer, Integer> changes = new HashMap<>();
    List<Push> pushes = new ArrayList<>();
    Model image = null;

    Model copy() {
        Model m = new Model();
        m.today = today;
        for (int i = 0; i < 4; i++) m.under[i] = under[i].clone();
        for (Tap t : taps) m.taps.add(t.copy());
        m.tape = tape;
        m.orders.addAll(orders);
        for (Taker t : takers) m.takers.add(new Taker(t.kind, t.tap, t.n, t.heat, t.since, new TreeSet<>(t.used)));
        m.sales.addAll(sales);
        m.looks.addAll(looks);
        m.drops.putAll(drops);
        m.changes.putAll(changes);
        m.pushes.addAll(pushes);
        return m;
    }

    static int far(int a, int b) {
        return Math.abs(a % 6 - b % 6) + Math.abs(a / 6 - b / 6);
    }

    static boolean in(int i, int low, int high) {
        return low <= i && i <= high;
    }

    int under(int c, int what, int n) {
        if (!in(c, 0, 29) || !in(what, 0, 3)) return NONE;
        int most = what == 0 ? 1500 : what == 1 ? 9999 : what == 2 ? 99 : 999;
        if (!in(n, 0, most)) return BAD;
        int was = under[what][c];
        under[what][c] = n;
        return was;
    }

    int cell(int c, int what) {
        return in(c, 0, 29) && in(what, 0, 3) ? under[what][c] : NONE;
    }

    boolean mayBe(int kind, int cell, int depth) {
        int deep = force(1, 0, today);
        if (kind == 2) deep = deep * 2;
        int apart = force(2, 0, today);
        return depth <= deep && taps.stream().allMatch(t -> far(t.cell, cell) >= apart);
    }

    int tap(int kind, int cell, int n, int depth) {
        if (!in(kind, 0, 2) || !in(cell, 0, 29)) return NONE;
        if (kind > 0 && (!in(n, 1, 500) || !in(depth, 0, 99))) return BAD;
        if (taps.stream().anyMatch(t -> t.cell == cell)) return STATE;
        if (kind > 0 && !mayBe(kind, cell, depth)) return STATE;
        if (taps.size() == 12) return FULL;
        Tap t = new Tap();
        t.kind = kind; t.cell = cell; t.n = n; t.from = today;
        taps.add(t);
        return taps.size() - 1;
    }

    int shut(int tap, boolean so) {
        if (!in(tap, 0, taps.size() - 1)) return NONE;
        boolean was = taps.get(tap).shut;
        taps.get(tap).shut = so;
        return was ? 1 : 0;
    }

    void passDay() {
        int[] heat = under[0], water = under[1];
        for (int c = 0; c < 30; c++) {
            heat[c] = Math.min(1500, heat[c] + under[2][c]);
            water[c] = Math.min(9999, water[c] + under[3][c]);
        }
        for (Tap t : taps) {
            int gave = t.kind == 0 ? water[t.cell] / 10 : t.kind == 1 ? t.n : t.n * 3 / 2;
            if (gave > water[t.cell]) gave = water[t.cell];
            if (t.shut) gave = 0;
            water[t.cell] -= gave;
            int hot = heat[t.cell];
            if (t.kind == 2) hot += 50;
            int comes = gave - t.scale / 10;
            int warm = hot - 10 * t.length / (gave + 10);
            t.days.put(today, new int[] {gave, hot, comes < 0 ? 0 : comes, warm < 0 ? 0 : warm});
            if (gave > 0) t.scale += hot >= 800 ? 2 : hot >= 500 ? 1 : 0;
        }
        under[0] = evened(heat, 8);
        under[1] = evened(water, 4);
        today++;
    }

    static int[] evened(int[] had, int part) {
        int[] has = had.clone();
        for (int a = 0; a < 30; a++) {
            for (int b = 0; b < 30; b++) {
                if (far(a, b) == 1 && had[a] > had[b]) {
                    has[a] -= (had[a] - had[b]) / part;
                    has[b] += (had[a] - had[b]) / part;
                }
            }
        }
        return has;
    }

    int dawn(int n) {
        if (!in(n, 1, 30) || today + n > 400) return BAD;
        for (int i = 0; i < n; i++) passDay();
        return today;
    }

    int[] past(int tap, int day) {
        return in(tap, 0, taps.size() - 1) && day < today ? taps.get(tap).days.get(day) : null;
    }

    int flow(int tap, int day, int what) {
        int[] past = past(tap, day);
        return past == null || !in(what, 0, 3) ? NONE : past[what];
    }

    int pipe(int tap, int length) {
        if (!in(tap, 0, taps.size() - 1)) return NONE;
        if (!in(length, 0, 99)) return BAD;
        int was = taps.get(tap).length;
        taps.get(tap).length = length;
        return was;
    }

    int scale(int tap) {
        if (!in(tap, 0, taps.size() - 1)) return NONE;
        int was = taps.get(tap).scale;
        taps.get(tap).scale = 0;
        return was;
    }

    int feed(long w, int n) {
        if (!in(n, 1, 8)) return BAD;
        if (tape.length() + n > 120) return FULL;
        StringBuilder more = new StringBuilder();
        for (int i = 0; i < n; i++) {
            more.insert(0, (char) (w & 255));
            w >>= 8;
        }
        tape += more;
        return tape.length();
    }

    int text(int day) {
        if (!in(day, 0, 400)) return BAD;
        if (orders.size() == 10) return FULL;
        Parsed p = new Parsed(tape);
        tape = "";
        if (p.clauses == null) return -10 - p.farthest;
        orders.add(new Order(orders.size(), day, p.clauses));
        return orders.size() - 1;
    }

    /** The ORDER and the place of the CLAUSE that rules, or null. */
    int[] ruling(int word, int taker, int day) {
        List<Order> inForce = new ArrayList<>();
        for (Order o : orders) if (o.from <= day) inForce.add(o);
        inForce.sort(Comparator.comparingInt(Order::from).thenComparingInt(Order::number).reversed());
        for (Order o : inForce) {
            for (int i = o.clauses.size() - 1; i >= 0; i--) {
                Clause c = o.clauses.get(i);
                if (c.word == word && (word > 0 || c.holds.test(takers.get(taker)))) return new int[] {o.number, i};
            }
        }
        return null;
    }

    int force(int word, int taker, int day) {
        if (!in(word, 0, 5) || word == 0 && !in(taker, 0, takers.size() - 1)) return NONE;
        if (!in(day, 0, 400)) return BAD;
        int[] r = ruling(word, taker, day);
        if (r != null) {
            for (Order o : orders) if (o.number == r[0]) return o.clauses.get(r[1]).n;
        }
        return List.of(100, 99, 1, 99, 0, 0).get(word);
    }

    int why(int word, int taker, int day) {
        if (!in(word, 0, 5) || word == 0 && !in(taker, 0, takers.size() - 1)) return NONE;
        if (!in(day, 0, 400)) return BAD;
        int[] r = ruling(word, taker, day);
        return r == null ? -5 : r[0] * 100 + r[1];
    }

    int taker(int kind, int tap, int n, int heat, int since) {
        if (!in(kind, 0, 5) || !in(tap, 0, 11)) return NONE;
        if (!in(n, 1, 4) || !in(heat, 0, 1500) || !in(since, 0, today)) return BAD;
        if (takers.size() == 8) return FULL;
        takers.add(new Taker(kind, tap, n, heat, since, new TreeSet<>()));
        return takers.size() - 1;
    }

    static int needs(int kind, int heat) {
        int n = switch (kind) {
            case 1 -> needs(0, heat) + 10;
            case 2 -> needs(0, heat) - 20;
            case 3 -> needs(0, heat) / 2;
            case 4 -> needs(2, heat);
            case 5 -> needs(4, heat) + 5;
            default -> heat;
        };
        return Math.max(n, 0);
    }

    int rank(int taker, int day) {
        int kind = takers.get(taker).kind;
        return force(0, taker, day) - (kind == 4 ? 1 : kind == 5 ? 2 : 0);
    }

    List<Integer> theRow(int day) {
        List<Integer> row = new ArrayList<>();
        for (int i = 0; i < takers.size(); i++) row.add(i);
        row.sort(Comparator.<Integer>comparingInt(t -> rank(t, day)).thenComparingInt(t -> takers.get(t).since)
            .thenComparingInt(t -> t));
        return row;
    }

    int of(int taker, int what) {
        if (!in(taker, 0, takers.size() - 1) || !in(what, 0, 2)) return NONE;
        if (what == 0) return needs(takers.get(taker).kind, takers.get(taker).heat);
        return what == 1 ? rank(taker, today) : theRow(today).indexOf(taker);
    }

    int as(int taker, int k) {
        if (!in(taker, 0, takers.size() - 1) || !in(k, 0, 5)) return NONE;
        List<Integer> above = List.of(List.of(0), List.of(1, 0), List.of(2, 0), List.of(3, 0), List.of(4, 2, 0),
            List.of(5, 4, 2, 0)).get(takers.get(taker).kind);
        return above.contains(k) ? takers.get(taker).n : -6;
    }

    int row(int day, int i) {
        if (!in(i, 0, takers.size() - 1)) return NONE;
        if (!in(day, 0, 400)) return BAD;
        return theRow(day).get(i);
    }

    int sell(int taker, int by, int to, int day) {
        if (!in(taker, 0, takers.size() - 1) || !in(by, 0, 9) || !in(to, 0, 9)) return NONE;
        if (!in(day, 0, today) || by == to) return BAD;
        if (sales.size() == 30) return FULL;
        sales.add(new Sale(taker, by, to, day));
        return sales.size();
    }

    int whose(int taker, int day, int e) {
        if (!in(taker, 0, takers.size() - 1) || !in(e, -1, sales.size())) return NONE;
        if (!in(day, 0, 400)) return BAD;
        List<Sale> told = sales.subList(0, e == -1 ? sales.size() : e);
        int owner = 0;
        for (int d = 0; d <= day; d++) {
            for (Sale s : told) if (s.day == d && s.taker == taker && s.by == owner) owner = s.to;
        }
        return owner;
    }

    int used(int taker, int day) {
        if (!in(taker, 0, takers.size() - 1)) return NONE;
        Taker t = takers.get(taker);
        if (!in(day, t.since, today)) return BAD;
        if (t.used.contains(day)) return STATE;
        if (t.used.size() == 20) return FULL;
        t.used.add(day);
        return t.used.size();
    }

    int lapsed(int taker, int day) {
        if (!in(taker, 0, takers.size() - 1)) return NONE;
        if (!in(day, 0, 400)) return BAD;
        Taker t = takers.get(taker);
        if (day < t.since) return 0;
        int idle = 0;
        while (day - idle > t.since && !t.used.contains(day - idle)) idle++;
        return idle > force(3, 0, day) ? 1 : 0;
    }

    boolean canServe(List<Taker> served, int at, int[] tens, int[] warm) {
        if (at == served.size()) return true;
        Taker t = served.get(at);
        int need = t.n * needs(t.kind, t.heat);
        for (int a = 0; a <= tens[0]; a++) {
            for (int b = 0; b <= tens[1] && a + b <= t.n; b++) {
                for (int c = 0; c <= tens[2] && a + b + c <= t.n; c++) {
                    int d = t.n - a - b - c;
                    if (d > tens[3] || a * warm[0] + b * warm[1] + c * warm[2] + d * warm[3] < need) continue;
                    int[] left = {tens[0] - a, tens[1] - b, tens[2] - c, tens[3] - d};
                    if (canServe(served, at + 1, left, warm)) return true;
                }
            }
        }
        return false;
    }

    int servedOf(int day, List<Integer> row) {
        int[] tens = new int[4], warm = new int[4];
        for (int i = 0; i < 4; i++) {
            int[] past = past(i, day);
            if (past != null) {
                tens[i] = Math.min(6, past[2] / 10);
                warm[i] = past[3];
            }
        }
        List<Taker> served = new ArrayList<>();
        int bits = 0;
        for (int t : row) {
            served.add(takers.get(t));
            if (canServe(served, 0, tens, warm)) bits += 1 << t;
            else served.remove(served.size() - 1);
        }
        return bits;
    }

    int mix(int day) {
        return in(day, 0, today - 1) ? servedOf(day, theRow(day)) : NONE;
    }

    int want(int n, int taker) {
        if (!in(taker, 0, takers.size() - 1)) return NONE;
        if (!in(n, 0, 999)) return BAD;
        int share = force(5, 0, today);
        List<Integer> row = theRow(today);
        int[] has = new int[takers.size()];
        int left = n;
        if (share == 1) {
            int all = takers.stream().mapToInt(Taker::n).sum();
            for (int i = 0; i < has.length; i++) has[i] = n * takers.get(i).n / all;
            for (int h : has) left -= h;
            for (int at = 0; left > 0; at = (at + 1) % has.length, left--) has[row.get(at)]++;
        } else if (share == 0) {
            for (int t : row) while (left > 0 && has[t] < takers.get(t).n) { has[t]++; left--; }
        } else {
            for (boolean more = true; more; ) {
                more = false;
                for (int t : row) if (left > 0 && has[t] < takers.get(t).n) { has[t]++; left--; more = true; }
            }
        }
        return has[taker];
    }

    int look(int tap, int day, int gallons, int heat) {
        if (!in(tap, 0, taps.size() - 1)) return NONE;
        if (!in(day, 0, 400) || !in(gallons, 0, 9999) || !in(heat, 0, 2000)) return BAD;
        if (looks.size() == 60) return FULL;
        looks.add(new Look(tap, day, gallons, heat));
        return looks.size();
    }

    int off(int tap) {
        if (!in(tap, 0, taps.size() - 1)) return NONE;
        int n = 0;
        for (Look l : looks) {
            int[] past = past(l.tap, l.day);
            if (l.tap != tap || past == null) continue;
            int least = force(4, 0, l.day);
            if (!in(l.gallons, past[0] - least, past[0] + least) || !in(l.heat, past[1] - least, past[1] + least)) n++;
        }
        return n;
    }

    int drop(int tap, int n) {
        if (!in(tap, 0, taps.size() - 1)) return NONE;
        if (!in(n, 0, 999)) return BAD;
        if (drops.size() == 4 && !drops.containsKey(tap)) return FULL;
        drops.put(tap, n);
        return drops.size();
    }

    static int best(int size, Predicate<Integer> explains, int what) {
        for (int members = 0; members <= size; members++) {
            int fewest = -5, rivals = 0;
            for (int set = (1 << size) - 1; set >= 0; set--) {
                if (Integer.bitCount(set) == members && explains.test(set)) {
                    fewest = set;
                    rivals++;
                }
            }
            if (rivals > 0) return what == 0 ? fewest : rivals;
        }
        return -5;
    }

    int cause(int d, int what) {
        if (!in(what, 0, 1)) return NONE;
        if (!in(d, 0, 99)) return BAD;
        List<Integer> bores = new ArrayList<>();
        for (int i = 0; i < taps.size(); i++) if (taps.get(i).kind > 0 && bores.size() < 8) bores.add(i);
        return best(bores.size(), set -> {
            for (int tap : drops.keySet()) {
                int sum = 0;
                for (int i = 0; i < bores.size(); i++) {
                    int b = bores.get(i);
                    if ((set >> i) % 2 == 1 && b != tap) {
                        sum += taps.get(b).n / (1 + far(taps.get(b).cell, taps.get(tap).cell));
                    }
                }
                if (!in(sum, drops.get(tap) - d, drops.get(tap) + d)) return false;
            }
            return true;
        }, what);
    }

    int tire(int tap, int n) {
        if (!in(tap, 0, taps.size() - 1)) return NONE;
        if (!in(n, 1, 9999)) return BAD;
        Model m = copy();
        for (int i = 0; i < 60 && m.today < 400; i++) {
            m.passDay();
            if (m.flow(tap, m.today - 1, 2) < n) return m.today - 1;
        }
        return -5;
    }

    int shake(int cell, int change) {
        if (!in(cell, 0, 29)) return NONE;
        if (!in(change, -999, 999)) return BAD;
        if (changes.size() == 6 && !changes.containsKey(cell)) return FULL;
        changes.put(cell, change);
        return changes.size();
    }

    int push(int cell, int strength) {
        if (!in(cell, 0, 29)) return NONE;
        if (!in(strength, -99, 99)) return BAD;
        if (pushes.size() == 6) return FULL;
        pushes.add(new Push(cell, strength));
        return pushes.size();
    }

    int shift(int what) {
        if (!in(what, 0, 1)) return NONE;
        return best(pushes.size(), set -> {
            for (int cell : changes.keySet()) {
                int sum = 0;
                for (int i = 0; i < pushes.size(); i++) {
                    Push p = pushes.get(i);
                    if ((set >> i) % 2 == 0 || far(p.cell, cell) > 2) continue;
                    int half = Integer.signum(p.strength) * (Math.abs(p.strength) / 2);
                    sum += far(p.cell, cell) == 2 ? half : p.strength;
                }
                if (sum != changes.get(cell)) return false;
            }
            return true;
        }, what);
    }

    int place(int n) {
        if (!in(n, 1, 500)) return BAD;
        if (taps.size() == 12 || 400 - today < 5) return STATE;
        int best = -5, most = 0;
        for (int cell = 29; cell >= 0; cell--) {
            Model m = copy();
            if (m.tap(1, cell, n, 1) < 0) continue;
            m.dawn(5);
            int sum = 0;
            for (int t = 0; t < taps.size(); t++) {
                for (int d = today; d < today + 5; d++) sum += m.flow(t, d, 0);
            }
            if (sum >= most) {
                most = sum;
                best = cell;
            }
        }
        return best;
    }

    int tried(int what, int day) {
        if (!in(what, 0, 1) || what == 1 && !in(day, 0, today - 1)) return NONE;
        Parsed p = new Parsed(tape);
        tape = "";
        if (p.clauses == null) return -10 - p.farthest;
        Model m = copy();
        m.orders.add(new Order(m.orders.size(), today, p.clauses));
        List<Integer> row = m.theRow(today);
        if (what == 0) return row.isEmpty() ? NONE : row.get(0);
        return Integer.bitCount(m.servedOf(day, row));
    }

    int image() {
        image = copy();
        return today;
    }

    int undo() {
        if (image == null) return STATE;
        Model m = image.copy();
        today = m.today; under = m.under; taps = m.taps; tape = m.tape; orders = m.orders; takers = m.takers;
        sales = m.sales; looks = m.looks; drops = m.drops; changes = m.changes; pushes = m.pushes;
        return today;
    }

    int count(int what) {
        return switch (what) {
            case 0 -> taps.size();
            case 1 -> orders.size();
            case 2 -> takers.size();
            case 3 -> sales.size();
            case 4 -> looks.size();
            case 5 -> today;
            case 6 -> tape.length();
            case 7 -> pushes.size();
            case 8 -> java.util.Arrays.stream(under[1]).sum();
            default -> NONE;
        };
    }

    /**
     * An ORDER read by following every way that the grammar leaves open at once. Each way that has come to a place
     * can be ended well, so the farthest place at which any way looked is the first byte with which none goes on.
     */
    static final class Parsed {
        record Way<T>(int place, T got) { }

        final String text;
        int farthest = 0;
        List<Clause> clauses = null;

        Parsed(String text) {
            this.text = text;
            List<Way<List<Clause>>> ways = List.of(new Way<>(0, List.of()));
            for (int i = 0; i < 8; i++) {
                List<Way<List<Clause>>> next = new ArrayList<>();
                for (Way<List<Clause>> w : ways) {
                    for (int start : i == 0 ? List.of(w.place) : word(w.place, ";")) {
                        for (Way<Clause> c : clause(start)) {
                            List<Clause> all = new ArrayList<>(w.got);
                            all.add(c.got);
                            next.add(new Way<>(c.place, all));
                        }
                    }
                }
                ways = next;
                for (Way<List<Clause>> w : ways) {
                    farthest = Math.max(farthest, w.place);
                    if (w.place == text.length()) clauses = w.got;
                }
            }
        }

        List<Integer> word(int place, String word) {
            for (int i = 0; i < word.length(); i++) {
                farthest = Math.max(farthest, place + i);
                if (place + i >= text.length() || text.charAt(place + i) != word.charAt(i)) return List.of();
            }
            farthest = Math.max(farthest, place + word.length());
            return List.of(place + word.length());
        }

        List<Way<Integer>> number(int place, int least, int most) {
            List<Way<Integer>> ways = new ArrayList<>();
            for (int n = least; n <= most; n++) {
                for (int end : word(place, "" + n)) ways.add(new Way<>(end, n));
            }
            return ways;
        }

        List<Way<Clause>> clause(int place) {
            List<Way<Clause>> ways = new ArrayList<>();
            List<String> words = List.of("rank", "deep", "apart", "lapse", "least", "share");
            for (int w = 0; w < 6; w++) {
                int which = w;
                for (int at : word(place, words.get(w) + " ")) {
                    for (Way<Integer> n : number(at, 0, w == 5 ? 2 : 999)) {
                        if (w > 0) {
                            ways.add(new Way<>(n.place, new Clause(which, n.got, null)));
                            continue;
                        }
                        for (int e : word(n.place, " ")) {
                            for (Way<Predicate<Taker>> p : either(e, 5)) {
                                ways.add(new Way<>(p.place, new Clause(which, n.got, p.got)));
                            }
                        }
                    }
                }
            }
            return ways;
        }

        List<Way<Predicate<Taker>>> either(int place, int room) {
            List<Way<Predicate<Taker>>> ways = new ArrayList<>(all(place, room));
            for (Way<Predicate<Taker>> left : all(place, room)) {
                for (int at : word(left.place, "|")) {
                    for (Way<Predicate<Taker>> right : either(at, room)) {
                        ways.add(new Way<>(right.place, left.got.or(right.got)));
                    }
                }
            }
            return ways;
        }

        List<Way<Predicate<Taker>>> all(int place, int room) {
            List<Way<Predicate<Taker>>> lefts = part(place, room);
            List<Way<Predicate<Taker>>> ways = new ArrayList<>(lefts);
            for (Way<Predicate<Taker>> left : lefts) {
                for (int at : word(left.place, "&")) {
                    for (Way<Predicate<Taker>> right : all(at, room)) {
                        ways.add(new Way<>(right.place, left.got.and(right.got)));
                    }
                }
            }
            return ways;
        }

        List<Way<Predicate<Taker>>> part(int place, int room) {
            List<Way<Predicate<Taker>>> ways = new ArrayList<>();
            for (int at : room > 0 ? word(place, "!") : List.<Integer>of()) {
                for (Way<Predicate<Taker>> p : part(at, room - 1)) ways.add(new Way<>(p.place, p.got.negate()));
            }
            for (int at : room > 0 ? word(place, "(") : List.<Integer>of()) {
                for (Way<Predicate<Taker>> p : either(at, room - 1)) {
                    for (int end : word(p.place, ")")) ways.add(new Way<>(end, p.got));
                }
            }
            for (int at : word(place, "k=")) for (Way<Integer> n : number(at, 0, 999)) ways.add(new Way<>(n.place, t -> t.kind == n.got));
            for (int at : word(place, "t=")) for (Way<Integer> n : number(at, 0, 999)) ways.add(new Way<>(n.place, t -> t.tap == n.got));
            for (int at : word(place, "n<")) for (Way<Integer> n : number(at, 0, 999)) ways.add(new Way<>(n.place, t -> t.n < n.got));
            for (int at : word(place, "n>")) for (Way<Integer> n : number(at, 0, 999)) ways.add(new Way<>(n.place, t -> t.n > n.got));
            for (int at : word(place, "s<")) for (Way<Integer> n : number(at, 0, 999)) ways.add(new Way<>(n.place, t -> t.since < n.got));
            for (int at : word(place, "s>")) for (Way<Integer> n : number(at, 0, 999)) ways.add(new Way<>(n.place, t -> t.since > n.got));
            for (int at : word(place, "h<")) for (Way<Integer> n : number(at, 0, 999)) ways.add(new Way<>(n.place, t -> t.heat < n.got));
            for (int at : word(place, "h>")) for (Way<Integer> n : number(at, 0, 999)) ways.add(new Way<>(n.place, t -> t.heat > n.got));
            return ways;
        }
    }
}
