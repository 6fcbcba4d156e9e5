import java.util.function.ToIntFunction;

/**
 * Each refusal that the document names, by promises: what it answers, that of several the first one told is
 * answered, and that it changes nothing. Every call is made on a new object that was filled alike.
 */
public final class RefusedTest {
    private static final int NONE = -1, BAD = -2, STATE = -3, FULL = -4;
    private static final int LEAST = Integer.MIN_VALUE, MOST = Integer.MAX_VALUE;

    interface Filled {
        HotSprings make();
    }

    private static Filled filled;
    private static String in;
    private static long unchanged;

    private static void on(String name, Filled by) {
        filled = by;
        in = name + ": ";
        unchanged = Told.byAll(by.make());
    }

    private static void refused(String call, int want, ToIntFunction<HotSprings> made) {
        HotSprings x = filled.make();
        Due.due(in + call, made.applyAsInt(x), want);
        Due.due(in + "all that there is behind " + call, Told.byAll(x), unchanged);
    }

    /** A call that is refused for each of these numbers. */
    private static void refusedFor(String call, int want, NumberCall made, int... numbers) {
        for (int n : numbers) {
            refused(call + " for " + n, want, x -> made.on(x, n));
        }
    }

    interface NumberCall {
        int on(HotSprings x, int n);
    }

    /** 12 DAYS went by; 3 TAPS, 3 TAKERS, and something of everything. */
    private static HotSprings some() {
        HotSprings x = new HotSprings();
        for (int c = 0; c < 30; c++) {
            x.under(c, 0, 40 * c);
            x.under(c, 1, 100 * c + 50);
        }
        x.under(0, 2, 20);
        x.under(0, 3, 100);
        x.dawn(5);
        x.tap(0, 0, 0, 0);
        x.tap(1, 2, 30, 1);
        x.dawn(3);
        x.tap(2, 28, 31, 1);
        x.pipe(0, 7);
        x.shut(1, true);
        x.taker(1, 0, 2, 100, 0);
        x.taker(5, 0, 1, 100, 6);
        x.dawn(2);
        Due.order(x, "rank 5 k=5;deep 9;apart 3;share 1", 0, 0);
        x.image();
        x.taker(3, 4, 3, 700, 2);
        x.dawn(2);
        x.sell(0, 0, 3, 2);
        x.used(0, 3);
        x.used(1, 9);
        x.look(0, 6, 0, 0);
        x.drop(0, 10);
        x.push(0, 6);
        x.shake(1, 6);
        x.feed(Due.word("deep 1"), 6);
        return x;
    }

    /** As much of everything as there can be. */
    private static HotSprings full() {
        HotSprings x = new HotSprings();
        for (int c = 0; c < 30; c++) {
            x.under(c, 0, 500);
            x.under(c, 1, 3000);
        }
        x.image();
        for (int c = 0; c < 12; c++) {
            x.tap(c % 3, 2 * c, 30 + c, 1);
        }
        x.dawn(30);
        for (int t = 0; t < 8; t++) {
            x.taker(t % 6, t, 1 + t % 4, 300 + t, t);
        }
        for (int i = 0; i < 10; i++) {
            x.feed(Due.word("rank " + i + " "), 7);
            x.feed(Due.word("n>" + i % 4), 3);
            x.text(3 * i);
        }
        for (int i = 0; i < 30; i++) {
            x.sell(i % 8, i % 3, 3 + i % 7, i);
        }
        for (int i = 0; i < 60; i++) {
            x.look(i % 12, i % 30, 10 * i, 20 * i);
        }
        for (int i = 0; i < 20; i++) {
            x.used(0, 30 - i);
        }
        for (int i = 0; i < 6; i++) {
            x.drop(i, 10 * i);
            x.shake(i, 5 * i);
            x.push(i, 5);
        }
        for (int i = 0; i < 15; i++) {
            x.feed(Due.word("oh! well"), i < 14 ? 8 : 7);
        }
        return x;
    }

    private static HotSprings atDay(int day) {
        HotSprings x = some();
        while (x.count(5) + 30 <= day) {
            x.dawn(30);
        }
        x.dawn(day - x.count(5));
        return x;
    }

    private static void promise2And3() {
        int[] most = {1500, 9999, 99, 999};
        for (int w = 0; w < 4; w++) {
            int what = w;
            refusedFor("under: cell", NONE, (x, n) -> x.under(n, what, 1), LEAST, -1, 30, MOST);
            refusedFor("cell: cell", NONE, (x, n) -> x.cell(n, what), LEAST, -1, 30, MOST);
            refusedFor("under: n of " + w, BAD, (x, n) -> x.under(29, what, n), LEAST, -1, most[w] + 1, MOST);
        }
        refusedFor("under: what", NONE, (x, n) -> x.under(0, n, 1), LEAST, -1, 4, MOST);
        refusedFor("cell: what", NONE, (x, n) -> x.cell(0, n), LEAST, -1, 4, MOST);
        refused("under: cell ahead of n", NONE, x -> x.under(30, 0, -1));
        refused("under: what ahead of n", NONE, x -> x.under(0, 4, -1));
    }

    private static void promise4() {
        refusedFor("tap: kind", NONE, (x, n) -> x.tap(n, 15, 1, 1), LEAST, -1, 3, MOST);
        for (int k = 0; k < 3; k++) {
            int kind = k;
            refusedFor("tap: cell", NONE, (x, n) -> x.tap(kind, n, 1, 1), LEAST, -1, 30, MOST);
            refusedFor("tap: a TAP is there", STATE, (x, n) -> x.tap(kind, n, 1, 1), 0, 2, 28);
        }
        for (int k = 1; k < 3; k++) {
            int kind = k;
            refusedFor("tap: n", BAD, (x, n) -> x.tap(kind, 17, n, 1), LEAST, -1, 0, 501, MOST);
            refusedFor("tap: depth", BAD, (x, n) -> x.tap(kind, 17, 1, n), LEAST, -1, 100, MOST);
            refusedFor("tap: too near", STATE, (x, n) -> x.tap(kind, n, 1, 1), 1, 3, 4, 6, 7, 8, 9, 12, 14, 16, 21, 22, 23, 26, 27, 29);
            refused("tap: n ahead of a TAP that is there", BAD, x -> x.tap(kind, 0, 0, 1));
            refused("tap: cell ahead of n", NONE, x -> x.tap(kind, 30, 0, 1));
        }
        refused("tap: kind ahead of n", NONE, x -> x.tap(3, 0, 0, 100));
        refusedFor("tap: too deep for a BORE", STATE, (x, n) -> x.tap(1, 17, 1, n), 10, 99);
        refusedFor("tap: too deep for a DEEP", STATE, (x, n) -> x.tap(2, 17, 1, n), 19, 99);
    }

    private static void promise5To9() {
        refusedFor("shut: tap", NONE, (x, n) -> x.shut(n, true), LEAST, -1, 3, 12, 31, 32, MOST);
        refusedFor("shut: tap", NONE, (x, n) -> x.shut(n, false), LEAST, -1, 3, 12, 31, 32, MOST);
        refusedFor("dawn: n", BAD, (x, n) -> x.dawn(n), LEAST, -1, 0, 31, 388, 389, MOST);
        refusedFor("flow: tap", NONE, (x, n) -> x.flow(n, 9, 0), LEAST, -1, 3, 12, MOST);
        refusedFor("flow: day", NONE, (x, n) -> x.flow(0, n, 0), LEAST, -1, 0, 4, 12, 400, MOST);
        refusedFor("flow: day ahead of the TAP", NONE, (x, n) -> x.flow(2, n, 0), 0, 6, 7);
        refusedFor("flow: what", NONE, (x, n) -> x.flow(0, 9, n), LEAST, -1, 4, MOST);
        refusedFor("pipe: tap", NONE, (x, n) -> x.pipe(n, 1), LEAST, -1, 3, 12, MOST);
        refusedFor("pipe: length", BAD, (x, n) -> x.pipe(2, n), LEAST, -1, 100, MOST);
        refused("pipe: tap ahead of length", NONE, x -> x.pipe(3, 100));
        refusedFor("scale: tap", NONE, (x, n) -> x.scale(n), LEAST, -1, 3, 12, MOST);
    }

    private static void promise10To13() {
        refusedFor("feed: n", BAD, (x, n) -> x.feed(0x6465657020313131L, n), LEAST, -1, 0, 9, 64, MOST);
        refusedFor("text: day", BAD, (x, n) -> x.text(n), LEAST, -1, 401, MOST);
        refusedFor("force: word", NONE, (x, n) -> x.force(n, 0, 0), LEAST, -1, 6, MOST);
        refusedFor("why: word", NONE, (x, n) -> x.why(n, 0, 0), LEAST, -1, 6, MOST);
        refusedFor("force: taker", NONE, (x, n) -> x.force(0, n, 0), LEAST, -1, 3, 8, MOST);
        refusedFor("why: taker", NONE, (x, n) -> x.why(0, n, 0), LEAST, -1, 3, 8, MOST);
        for (int w = 0; w < 6; w++) {
            int word = w;
            refusedFor("force: day", BAD, (x, n) -> x.force(word, 0, n), LEAST, -1, 401, MOST);
            refusedFor("why: day", BAD, (x, n) -> x.why(word, 0, n), LEAST, -1, 401, MOST);
        }
        refused("force: word ahead of day", NONE, x -> x.force(6, 0, 401));
        refused("force: taker ahead of day", NONE, x -> x.force(0, 3, 401));
        refused("why: word ahead of day", NONE, x -> x.why(-1, 0, -1));
        refused("why: taker ahead of day", NONE, x -> x.why(0, -1, -1));
    }

    private static void promise14To17() {
        refusedFor("taker: kind", NONE, (x, n) -> x.taker(n, 0, 1, 0, 0), LEAST, -1, 6, MOST);
        refusedFor("taker: tap", NONE, (x, n) -> x.taker(0, n, 1, 0, 0), LEAST, -1, 12, MOST);
        for (int k = 0; k < 6; k++) {
            int kind = k;
            refusedFor("taker: n", BAD, (x, n) -> x.taker(kind, 0, n, 0, 0), LEAST, -1, 0, 5, MOST);
            refusedFor("taker: heat", BAD, (x, n) -> x.taker(kind, 0, 1, n, 0), LEAST, -1, 1501, MOST);
            refusedFor("taker: since", BAD, (x, n) -> x.taker(kind, 0, 1, 0, n), LEAST, -1, 13, 400, MOST);
        }
        refused("taker: kind ahead of n", NONE, x -> x.taker(6, 0, 0, 0, 0));
        refused("taker: tap ahead of heat", NONE, x -> x.taker(0, 12, 1, 1501, 0));
        refusedFor("of: taker", NONE, (x, n) -> x.of(n, 0), LEAST, -1, 3, 8, MOST);
        refusedFor("of: what", NONE, (x, n) -> x.of(0, n), LEAST, -1, 3, MOST);
        refusedFor("as: taker", NONE, (x, n) -> x.as(n, 0), LEAST, -1, 3, 8, MOST);
        refusedFor("as: k", NONE, (x, n) -> x.as(0, n), LEAST, -1, 6, MOST);
        refused("as: another KIND", -6, x -> x.as(0, 2));
        refused("as: k ahead of another KIND", NONE, x -> x.as(0, 6));
        refusedFor("row: i", NONE, (x, n) -> x.row(0, n), LEAST, -1, 3, 8, MOST);
        refusedFor("row: day", BAD, (x, n) -> x.row(n, 0), LEAST, -1, 401, MOST);
        refused("row: i ahead of day", NONE, x -> x.row(401, 3));
    }

    private static void promise18To21() {
        refusedFor("sell: taker", NONE, (x, n) -> x.sell(n, 0, 1, 0), LEAST, -1, 3, 8, MOST);
        refusedFor("sell: by", NONE, (x, n) -> x.sell(0, n, 1, 0), LEAST, -1, 10, MOST);
        refusedFor("sell: to", NONE, (x, n) -> x.sell(0, 0, n, 0), LEAST, -1, 10, MOST);
        refusedFor("sell: day", BAD, (x, n) -> x.sell(0, 0, 1, n), LEAST, -1, 13, 400, MOST);
        refusedFor("sell: one OWNER", BAD, (x, n) -> x.sell(0, n, n, 0), 0, 5, 9);
        refused("sell: owners ahead of one OWNER", NONE, x -> x.sell(0, 10, 10, 0));
        refused("sell: taker ahead of day", NONE, x -> x.sell(3, 0, 1, 13));
        refusedFor("whose: taker", NONE, (x, n) -> x.whose(n, 0, 0), LEAST, -1, 3, 8, MOST);
        refusedFor("whose: e", NONE, (x, n) -> x.whose(0, 0, n), LEAST, -2, 2, 30, MOST);
        refusedFor("whose: day", BAD, (x, n) -> x.whose(0, n, -1), LEAST, -1, 401, MOST);
        refused("whose: e ahead of day", NONE, x -> x.whose(0, 401, 2));
        refusedFor("used: taker", NONE, (x, n) -> x.used(n, 9), LEAST, -1, 3, 8, MOST);
        refusedFor("used: day", BAD, (x, n) -> x.used(1, n), LEAST, -1, 0, 5, 13, 400, MOST);
        refused("used: told", STATE, x -> x.used(1, 9));
        refused("used: told", STATE, x -> x.used(0, 3));
        refused("used: taker ahead of day", NONE, x -> x.used(3, 401));
        refusedFor("lapsed: taker", NONE, (x, n) -> x.lapsed(n, 0), LEAST, -1, 3, 8, MOST);
        refusedFor("lapsed: day", BAD, (x, n) -> x.lapsed(0, n), LEAST, -1, 401, MOST);
        refused("lapsed: taker ahead of day", NONE, x -> x.lapsed(3, 401));
    }

    private static void promise22To27() {
        refusedFor("mix: day", NONE, (x, n) -> x.mix(n), LEAST, -1, 12, 13, 400, MOST);
        refusedFor("want: taker", NONE, (x, n) -> x.want(1, n), LEAST, -1, 3, 8, MOST);
        refusedFor("want: n", BAD, (x, n) -> x.want(n, 2), LEAST, -1, 1000, MOST);
        refused("want: taker ahead of n", NONE, x -> x.want(1000, 3));
        refusedFor("look: tap", NONE, (x, n) -> x.look(n, 0, 0, 0), LEAST, -1, 3, 12, MOST);
        refusedFor("look: day", BAD, (x, n) -> x.look(0, n, 0, 0), LEAST, -1, 401, MOST);
        refusedFor("look: gallons", BAD, (x, n) -> x.look(0, 0, n, 0), LEAST, -1, 10000, MOST);
        refusedFor("look: heat", BAD, (x, n) -> x.look(0, 0, 0, n), LEAST, -1, 2001, MOST);
        refused("look: tap ahead of day", NONE, x -> x.look(3, 401, 0, 0));
        refusedFor("off: tap", NONE, (x, n) -> x.off(n), LEAST, -1, 3, 12, MOST);
        refusedFor("drop: tap", NONE, (x, n) -> x.drop(n, 1), LEAST, -1, 3, 12, 32, MOST);
        refusedFor("drop: n", BAD, (x, n) -> x.drop(0, n), LEAST, -1, 1000, MOST);
        refusedFor("drop: n of another", BAD, (x, n) -> x.drop(2, n), LEAST, -1, 1000, MOST);
        refused("drop: tap ahead of n", NONE, x -> x.drop(3, 1000));
        refusedFor("cause: what", NONE, (x, n) -> x.cause(0, n), LEAST, -1, 2, MOST);
        refusedFor("cause: d", BAD, (x, n) -> x.cause(n, 1), LEAST, -1, 100, MOST);
        refused("cause: what ahead of d", NONE, x -> x.cause(100, 2));
    }

    private static void promise28To33() {
        refusedFor("tire: tap", NONE, (x, n) -> x.tire(n, 1), LEAST, -1, 3, 12, MOST);
        refusedFor("tire: n", BAD, (x, n) -> x.tire(2, n), LEAST, -1, 0, 10000, MOST);
        refused("tire: tap ahead of n", NONE, x -> x.tire(3, 0));
        refusedFor("shake: cell", NONE, (x, n) -> x.shake(n, 1), LEAST, -1, 30, 32, MOST);
        refusedFor("shake: change", BAD, (x, n) -> x.shake(1, n), LEAST, -1000, 1000, MOST);
        refusedFor("shake: change of another", BAD, (x, n) -> x.shake(2, n), LEAST, -1000, 1000, MOST);
        refused("shake: cell ahead of change", NONE, x -> x.shake(30, 1000));
        refusedFor("push: cell", NONE, (x, n) -> x.push(n, 1), LEAST, -1, 30, MOST);
        refusedFor("push: strength", BAD, (x, n) -> x.push(0, n), LEAST, -100, 100, MOST);
        refused("push: cell ahead of strength", NONE, x -> x.push(-1, 100));
        refusedFor("shift: what", NONE, (x, n) -> x.shift(n), LEAST, -1, 2, MOST);
        refusedFor("place: n", BAD, (x, n) -> x.place(n), LEAST, -1, 0, 501, MOST);
        refusedFor("tried: what", NONE, (x, n) -> x.tried(n, 0), LEAST, -1, 2, MOST);
        refusedFor("tried: day", NONE, (x, n) -> x.tried(1, n), LEAST, -1, 12, 13, 400, MOST);
        refusedFor("count: what", NONE, (x, n) -> x.count(n), LEAST, -1, 9, MOST);
    }

    private static void whenFull() {
        for (int k = 0; k < 3; k++) {
            int kind = k;
            refused("tap: 12", FULL, x -> x.tap(kind, 29, 1, 1));
            refused("tap: cell ahead of 12", NONE, x -> x.tap(kind, 30, 1, 1));
            refused("tap: a TAP is there, ahead of 12", STATE, x -> x.tap(kind, 22, 1, 1));
        }
        refused("tap: n ahead of 12", BAD, x -> x.tap(1, 29, 501, 1));
        refusedFor("feed: 120 bytes", FULL, (x, n) -> x.feed(0, n), 2, 3, 8);
        refused("feed: n ahead of 120 bytes", BAD, x -> x.feed(0, 9));
        refusedFor("text: 10", FULL, (x, n) -> x.text(n), 0, 30, 400);
        refused("text: day ahead of 10", BAD, x -> x.text(401));
        refused("taker: 8", FULL, x -> x.taker(0, 0, 1, 0, 0));
        refused("taker: kind ahead of 8", NONE, x -> x.taker(6, 0, 1, 0, 0));
        refused("taker: since ahead of 8", BAD, x -> x.taker(0, 0, 1, 0, 31));
        refused("sell: 30", FULL, x -> x.sell(0, 0, 1, 0));
        refused("sell: taker ahead of 30", NONE, x -> x.sell(8, 0, 1, 0));
        refused("sell: one OWNER ahead of 30", BAD, x -> x.sell(0, 1, 1, 0));
        refused("used: 20", FULL, x -> x.used(0, 0));
        refused("used: told, ahead of 20", STATE, x -> x.used(0, 30));
        refused("used: day ahead of 20", BAD, x -> x.used(0, 31));
        refused("look: 60", FULL, x -> x.look(0, 0, 0, 0));
        refused("look: tap ahead of 60", NONE, x -> x.look(12, 0, 0, 0));
        refused("look: heat ahead of 60", BAD, x -> x.look(0, 0, 0, 2001));
        refusedFor("drop: 4", FULL, (x, n) -> x.drop(n, 1), 4, 5, 11);
        refused("drop: tap ahead of 4", NONE, x -> x.drop(12, 1));
        refused("drop: n ahead of 4", BAD, x -> x.drop(4, 1000));
        refusedFor("shake: 6", FULL, (x, n) -> x.shake(n, 1), 6, 29);
        refused("shake: cell ahead of 6", NONE, x -> x.shake(30, 1));
        refused("shake: change ahead of 6", BAD, x -> x.shake(6, 1000));
        refused("push: 6", FULL, x -> x.push(0, 1));
        refused("push: cell ahead of 6", NONE, x -> x.push(30, 1));
        refused("push: strength ahead of 6", BAD, x -> x.push(0, 100));
        refused("place: 12 TAPS", STATE, x -> x.place(1));
        refused("place: n ahead of 12 TAPS", BAD, x -> x.place(0));
    }

    private static void nearTheEnd() {
        on("DAY 395", () -> atDay(395));
        refusedFor("dawn: beyond 400", BAD, (x, n) -> x.dawn(n), 6, 7, 30);
        on("DAY 396", () -> atDay(396));
        refused("place: 4 DAYS are left", STATE, x -> x.place(1));
        refused("place: n ahead of DAYS", BAD, x -> x.place(501));
        on("DAY 400", () -> atDay(400));
        refusedFor("dawn: beyond 400", BAD, (x, n) -> x.dawn(n), 1, 30, MOST);
        refused("place: no DAY is left", STATE, x -> x.place(500));
        refused("flow: a DAY to come", NONE, x -> x.flow(0, 400, 0));
        refused("mix: a DAY to come", NONE, x -> x.mix(400));
    }

    private static void whenNew() {
        for (int what = 0; what < 4; what++) {
            int w = what;
            refused("flow", NONE, x -> x.flow(0, 0, w));
        }
        refused("shut", NONE, x -> x.shut(0, true));
        refused("pipe", NONE, x -> x.pipe(0, 1));
        refused("scale", NONE, x -> x.scale(0));
        refused("force", NONE, x -> x.force(0, 0, 0));
        refused("why", NONE, x -> x.why(0, 0, 0));
        refused("of", NONE, x -> x.of(0, 0));
        refused("as", NONE, x -> x.as(0, 0));
        refused("row", NONE, x -> x.row(0, 0));
        refused("sell", NONE, x -> x.sell(0, 0, 1, 0));
        refused("whose", NONE, x -> x.whose(0, 0, 0));
        refused("used", NONE, x -> x.used(0, 0));
        refused("lapsed", NONE, x -> x.lapsed(0, 0));
        refused("mix", NONE, x -> x.mix(0));
        refused("want", NONE, x -> x.want(0, 0));
        refused("look", NONE, x -> x.look(0, 0, 0, 0));
        refused("off", NONE, x -> x.off(0));
        refused("drop", NONE, x -> x.drop(0, 0));
        refused("tire", NONE, x -> x.tire(0, 1));
        refused("tried", NONE, x -> x.tried(1, 0));
        refused("undo", STATE, x -> x.undo());
        refused("text: nothing stands on THE TAPE", -10, x -> x.text(0));
        refused("tried: nothing stands on THE TAPE", -10, x -> x.tried(0, 0));
    }

    public static void main(String[] args) {
        on("some", RefusedTest::some);
        promise2And3();
        promise4();
        promise5To9();
        promise10To13();
        promise14To17();
        promise18To21();
        promise22To27();
        promise28To33();
        on("full", RefusedTest::full);
        whenFull();
        nearTheEnd();
        on("new", HotSprings::new);
        whenNew();
        Due.end("RefusedTest");
    }
}
