/** No call throws or fails to end, whatever it is told in whatever state; and a refused call changes nothing. */
public final class RoughTest {
    private static final int[] EDGES = {Integer.MIN_VALUE, Integer.MIN_VALUE + 1, -1000, -100, -6, -2, -1, 0, 1, 2, 3, 4, 5, 6, 7,
        8, 9, 10, 11, 12, 13, 29, 30, 31, 32, 63, 64, 99, 100, 400, 401, 500, 999, 1000, 1500, 9999, 10000, 65536,
        Integer.MAX_VALUE - 1, Integer.MAX_VALUE};
    private static final String SIGNS = "rankdeplsth0123456789 ;!()&|=<>";
    private static long seed;

    private static int any(int n) {
        seed = seed * 6364136223846793005L + 1442695040888963407L;
        return (int) ((seed >>> 33) % n);
    }

    private static int edge() {
        return any(3) == 0 ? EDGES[any(EDGES.length)] : any(3) == 0 ? any(500) : any(8);
    }

    private static long bytes() {
        long w = 0;
        for (int i = 0; i < 8; i++) {
            w = w << 8 | SIGNS.charAt(any(SIGNS.length()));
        }
        return any(4) == 0 ? seed : w;
    }

    private static int call(HotSprings x, int which) {
        int a = edge(), b = edge(), c = edge(), d = edge(), e = edge();
        switch (which) {
            case 0: return x.under(a, b, c);
            case 1: return x.cell(a, b);
            case 2: return x.tap(a, b, c, d);
            case 3: return x.shut(a, b > 0);
            case 4: return x.dawn(a);
            case 5: return x.flow(a, b, c);
            case 6: return x.pipe(a, b);
            case 7: return x.scale(a);
            case 8: return x.feed(bytes(), a);
            case 9: return x.text(a);
            case 10: return x.force(a, b, c);
            case 11: return x.why(a, b, c);
            case 12: return x.taker(a, b, c, d, e);
            case 13: return x.of(a, b);
            case 14: return x.as(a, b);
            case 15: return x.row(a, b);
            case 16: return x.sell(a, b, c, d);
            case 17: return x.whose(a, b, c);
            case 18: return x.used(a, b);
            case 19: return x.lapsed(a, b);
            case 20: return x.mix(a);
            case 21: return x.want(a, b);
            case 22: return x.look(a, b, c, d);
            case 23: return x.off(a);
            case 24: return x.drop(a, b);
            case 25: return x.cause(a, b);
            case 26: return x.tire(a, b);
            case 27: return x.shake(a, b);
            case 28: return x.push(a, b);
            case 29: return x.shift(a);
            case 30: return x.place(a);
            case 31: return x.tried(a, b);
            case 32: return x.image();
            case 33: return x.undo();
            default: return x.count(a);
        }
    }

    private static long state(HotSprings x) {
        long sum = 0;
        for (int i = 0; i < 9; i++) {
            sum = sum * 31 + x.count(i);
        }
        for (int c = 0; c < 30; c++) {
            for (int what = 0; what < 4; what++) {
                sum = sum * 31 + x.cell(c, what);
            }
        }
        for (int t = 0; t < 12; t++) {
            sum = sum * 31 + x.flow(t, 0, 0) + x.off(t) + x.want(9, t) + x.of(t, 2) + x.lapsed(t, 120);
        }
        return sum * 31 + x.cause(20, 0) + x.shift(0);
    }

    public static void main(String[] args) {
        for (int run = 0; run < 300; run++) {
            seed = run;
            HotSprings x = new HotSprings();
            for (int i = 0; i < 1000; i++) {
                call(x, any(35));
            }
        }
        // The calls whose answers below 0 are refusals alone, FAULTS aside.
        int[] refusing = {0, 2, 3, 4, 6, 7, 8, 12, 16, 18, 22, 24, 27, 28};
        for (int run = 0; run < 100; run++) {
            seed = 1000 + run;
            HotSprings x = new HotSprings();
            for (int i = 0; i < 400; i++) {
                long was = state(x);
                int which = refusing[any(refusing.length)];
                int got = call(x, which);
                if (got < 0) {
                    Due.due("state behind refused call " + which, state(x), was);
                    Due.due("refusal " + got, got >= -4 ? 1 : 0, 1);
                }
            }
        }
        Due.end("RoughTest");
    }
}
