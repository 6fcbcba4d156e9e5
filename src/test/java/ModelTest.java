import java.util.ArrayList;
import java.util.List;

/** Long runs of calls, the same at each start, answered by HotSprings and by Model. */
public final class ModelTest {
    private static long seed = 1;
    private static HotSprings x;
    private static Model m;
    private static int calls;
    private static final List<String> told = new ArrayList<>();

    private static int any(int n) {
        seed = seed * 6364136223846793005L + 1442695040888963407L;
        return (int) ((seed >>> 33) % n);
    }

    private static int from(int low, int high) {
        return low + any(high - low + 1);
    }

    /** A number of a range, now and then one at its edge or beside it. */
    private static int near(int low, int high) {
        switch (any(14)) {
            case 0: return low;
            case 1: return high;
            case 2: return any(4) == 0 ? low - 1 : low;
            case 3: return any(4) == 0 ? high + 1 : high;
            default: return from(low, Math.max(low, high));
        }
    }

    private static void same(String call, long got, long want) {
        calls++;
        told.add(call + " = " + want);
        Due.due("run, call " + calls + ": " + call, got, want);
    }

    private static String number() {
        switch (any(10)) {
            case 0: return "0";
            case 1: return "" + from(0, 999);
            case 2: return "999";
            default: return "" + from(0, 12);
        }
    }

    private static String either(int open) {
        StringBuilder s = new StringBuilder(all(open));
        while (any(4) == 0) s.append('|').append(all(open));
        return s.toString();
    }

    private static String all(int open) {
        StringBuilder s = new StringBuilder(part(open));
        while (any(4) == 0) s.append('&').append(part(open));
        return s.toString();
    }

    private static String part(int open) {
        int a = any(10);
        if (open < 6 && a < 2) return "!" + part(open + 1);
        if (open < 6 && a < 4) return "(" + either(open + 1) + ")";
        switch (any(6)) {
            case 0: return "k=" + from(0, 5);
            case 1: return "t=" + from(0, 3);
            case 2: return "n" + (any(2) == 0 ? "<" : ">") + from(0, 5);
            case 3: return "s" + (any(2) == 0 ? "<" : ">") + from(0, 20);
            case 4: return "h" + (any(2) == 0 ? "<" : ">") + from(0, 999);
            default: return "k=" + number();
        }
    }

    private static String clause() {
        switch (any(9)) {
            case 0: return "deep " + from(0, 99);
            case 1: return "apart " + from(0, 4);
            case 2: return "lapse " + from(0, 30);
            case 3: return "least " + from(0, 200);
            case 4: return "share " + from(0, any(8) == 0 ? 3 : 2);
            default: return "rank " + from(0, 9) + " " + either(0);
        }
    }

    private static String orderText() {
        StringBuilder s = new StringBuilder(clause());
        int more = any(12) == 0 ? 8 : any(5);
        for (int i = 0; i < more; i++) {
            String next = ";" + (any(12) == 0 ? "deep 1" : clause());
            if (s.length() + next.length() <= 120) s.append(next);
        }
        if (s.length() > 120) s.setLength(from(1, 120));
        if (any(4) == 0) {
            String signs = "rankdeplsth0123456789 ;!()&|=<>" + (char) 200 + (char) 0;
            int at = any(s.length());
            switch (any(4)) {
                case 0: s.setCharAt(at, signs.charAt(any(signs.length()))); break;
                case 1: s.deleteCharAt(at); break;
                case 2: s.setLength(at); break;
                default: if (s.length() < 120) s.insert(at, signs.charAt(any(signs.length()))); break;
            }
        }
        return s.toString();
    }

    private static void feedAll(String text) {
        for (int i = 0; i < text.length(); ) {
            int n = Math.min(text.length() - i, any(4) == 0 ? from(1, 8) : 8);
            long w = Due.word(text.substring(i, i + n));
            if (n < 8 && any(3) == 0) w |= (long) from(1, 1000) << 8 * n;
            same("feed(" + text.substring(i, i + n) + ")", x.feed(w, n), m.feed(w, n));
            i += n;
        }
    }

    private static void underCalls() {
        int c = near(0, 29), w = near(0, 3);
        int most = w == 0 ? 1500 : w == 1 ? 9999 : w == 2 ? 99 : 999;
        int n = near(0, most);
        same("under(" + c + ", " + w + ", " + n + ")", x.under(c, w, n), m.under(c, w, n));
        int b = near(0, 29), v = near(0, 3);
        same("cell(" + b + ", " + v + ")", x.cell(b, v), m.cell(b, v));
    }

    private static int aTap() {
        return near(0, Math.max(0, m.taps.size() - 1));
    }

    private static int aTaker() {
        return near(0, Math.max(0, m.takers.size() - 1));
    }

    private static int aDay() {
        return any(5) == 0 ? near(0, 400) : near(0, m.today + 3);
    }

    private static int aPastDay() {
        return any(6) == 0 ? near(0, 400) : near(0, m.today - 1);
    }

    private static void oneCall() {
        int t = aTap(), k = aTaker(), d = aDay(), p = aPastDay();
        switch (any(44)) {
            case 0: case 1: case 2: underCalls(); break;
            case 3: case 4: case 5: {
                int kind = near(0, 2), c = near(0, 29), n = near(1, 500), deep = near(0, any(2) == 0 ? 99 : 12);
                same("tap(" + kind + ", " + c + ", " + n + ", " + deep + ")", x.tap(kind, c, n, deep), m.tap(kind, c, n, deep));
                break;
            }
            case 6: { boolean so = any(2) == 0; same("shut(" + t + ", " + so + ")", x.shut(t, so), m.shut(t, so)); break; }
            case 7: case 8: { int n = any(4) == 0 ? near(1, 30) : from(1, 5); same("dawn(" + n + ")", x.dawn(n), m.dawn(n)); break; }
            case 9: case 10: { int w = near(0, 3); same("flow(" + t + ", " + p + ", " + w + ")", x.flow(t, p, w), m.flow(t, p, w)); break; }
            case 11: { int n = near(0, 99); same("pipe(" + t + ", " + n + ")", x.pipe(t, n), m.pipe(t, n)); break; }
            case 12: if (any(3) == 0) same("scale(" + t + ")", x.scale(t), m.scale(t)); break;
            case 13: { int n = near(1, 8); long w = seed; if (any(6) == 0) same("feed(" + w + ", " + n + ")", x.feed(w, n), m.feed(w, n)); break; }
            case 14: case 15: case 16: feedAll(orderText()); same("text(" + d + ")", x.text(d), m.text(d)); break;
            case 17: case 18: { int w = near(0, 5); same("force(" + w + ", " + k + ", " + d + ")", x.force(w, k, d), m.force(w, k, d)); break; }
            case 19: case 20: { int w = near(0, 5); same("why(" + w + ", " + k + ", " + d + ")", x.why(w, k, d), m.why(w, k, d)); break; }
            case 21: case 22: case 23: {
                int kind = near(0, 5), n = near(1, 4), h = any(2) == 0 ? near(0, 1500) : from(0, 400), s = near(0, m.today), tap = near(0, 11);
                same("taker(" + kind + ", " + tap + ", " + n + ", " + h + ", " + s + ")", x.taker(kind, tap, n, h, s), m.taker(kind, tap, n, h, s));
                break;
            }
            case 24: { int w = near(0, 2); same("of(" + k + ", " + w + ")", x.of(k, w), m.of(k, w)); break; }
            case 25: { int w = near(0, 5); same("as(" + k + ", " + w + ")", x.as(k, w), m.as(k, w)); break; }
            case 26: same("row(" + d + ", " + k + ")", x.row(d, k), m.row(d, k)); break;
            case 27: case 28: {
                int by = any(2) == 0 ? 0 : near(0, 9), to = near(0, 9), on = near(0, m.today);
                if (k >= 0 && k < m.takers.size() && any(3) > 0) by = m.whose(k, Math.max(0, Math.min(on, 400)), -1);
                same("sell(" + k + ", " + by + ", " + to + ", " + on + ")", x.sell(k, by, to, on), m.sell(k, by, to, on));
                break;
            }
            case 29: { int e = near(-1, m.sales.size()); same("whose(" + k + ", " + d + ", " + e + ")", x.whose(k, d, e), m.whose(k, d, e)); break; }
            case 30: { int on = near(0, m.today); same("used(" + k + ", " + on + ")", x.used(k, on), m.used(k, on)); break; }
            case 31: same("lapsed(" + k + ", " + d + ")", x.lapsed(k, d), m.lapsed(k, d)); break;
            case 32: case 33: same("mix(" + p + ")", x.mix(p), m.mix(p)); break;
            case 34: { int n = any(3) == 0 ? near(0, 999) : from(0, 30); same("want(" + n + ", " + k + ")", x.want(n, k), m.want(n, k)); break; }
            case 35: lookCalls(t, p); break;
            case 36: { int n = any(3) == 0 ? near(0, 999) : from(0, 60); same("drop(" + t + ", " + n + ")", x.drop(t, n), m.drop(t, n)); break; }
            case 37: { int n = any(2) == 0 ? near(0, 99) : from(50, 99), w = near(0, 1); same("cause(" + n + ", " + w + ")", x.cause(n, w), m.cause(n, w)); break; }
            case 38: { int n = any(3) == 0 ? near(1, 9999) : from(1, 300); same("tire(" + t + ", " + n + ")", x.tire(t, n), m.tire(t, n)); break; }
            case 39: shookCalls(); break;
            case 40: { if (any(4) == 0) { int n = near(1, 500); same("place(" + n + ")", x.place(n), m.place(n)); } break; }
            case 41: case 42: { feedAll(orderText()); int w = near(0, 1); same("tried(" + w + ", " + p + ")", x.tried(w, p), m.tried(w, p)); break; }
            default:
                if (any(3) == 0) same("image()", x.image(), m.image());
                else if (any(2) == 0) same("undo()", x.undo(), m.undo());
                break;
        }
        int w = any(10);
        same("count(" + w + ")", x.count(w), m.count(w));
    }

    private static void lookCalls(int t, int p) {
        int g = any(2) == 0 ? near(0, 9999) : Math.max(0, m.flow(t, p, 0) + from(-40, 40));
        int h = any(2) == 0 ? near(0, 2000) : Math.max(0, m.flow(t, p, 1) + from(-40, 40));
        same("look(" + t + ", " + p + ", " + g + ", " + h + ")", x.look(t, p, g, h), m.look(t, p, g, h));
        int o = aTap();
        same("off(" + o + ")", x.off(o), m.off(o));
    }

    private static void shookCalls() {
        int c = any(2) == 0 ? near(0, 29) : from(6, 9), n = any(2) == 0 ? near(-999, 999) : from(-3, 3);
        if (any(3) == 0) same("shake(" + c + ", " + n + ")", x.shake(c, n), m.shake(c, n));
        int b = any(2) == 0 ? near(0, 29) : from(6, 9), s = any(2) == 0 ? near(-99, 99) : from(-5, 5);
        same("push(" + b + ", " + s + ")", x.push(b, s), m.push(b, s));
        int w = near(0, 1);
        same("shift(" + w + ")", x.shift(w), m.shift(w));
    }

    private static void run(int number) {
        x = new HotSprings();
        m = new Model();
        told.clear();
        seed = number * 7919L + 17;
        calls = 0;
        int warm = any(3);
        for (int i = 0; i < 20 * warm; i++) {
            underCalls();
        }
        while (calls < 480 && !Due.any()) {
            oneCall();
        }
    }

    public static void main(String[] args) {
        int runs = args.length > 0 ? Integer.parseInt(args[0]) : 400;
        for (int i = 0; i < runs && !Due.any(); i++) {
            run(i);
            if (Due.any()) {
                System.out.println("run " + i);
                told.forEach(System.out::println);
            }
        }
        Due.end("ModelTest");
    }
}
