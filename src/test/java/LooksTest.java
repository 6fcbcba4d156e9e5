/** Promises 24 to 33: LOOKS, CAUSES, FORETOLD, SHOOK, PLACE, TRIED. */
public final class LooksTest {
    private static HotSprings x;

    private static void due(String call, long got, long want) {
        Due.due(call, got, want);
    }

    private static void promise24() {
        x = new HotSprings();
        due("tap", x.look(0, 0, 0, 0), -1);
        x.tap(0, 0, 0, 0);
        due("tap", x.look(-1, 0, 0, 0), -1);
        due("tap ahead of day", x.look(1, 401, 0, 0), -1);
        due("day", x.look(0, -1, 0, 0), -2);
        due("day", x.look(0, 401, 0, 0), -2);
        due("gallons", x.look(0, 0, -1, 0), -2);
        due("gallons", x.look(0, 0, 10000, 0), -2);
        due("heat", x.look(0, 0, 0, -1), -2);
        due("heat", x.look(0, 0, 0, 2001), -2);
        due("none", x.count(4), 0);
        for (int i = 1; i <= 60; i++) {
            due("look", x.look(0, i % 2 * 400, 9999, 2000), i);
        }
        due("full", x.look(0, 0, 0, 0), -4);
        due("bad ahead of full", x.look(0, 0, 0, 2001), -2);
        due("sixty", x.count(4), 60);
    }

    private static void promise25() {
        x = new HotSprings();
        x.under(0, 0, 800);
        x.under(0, 1, 100);
        x.dawn(1);
        x.under(0, 0, 500);
        x.under(0, 1, 100);
        x.tap(1, 0, 20, 1);
        x.pipe(0, 99);
        x.under(14, 0, 300);
        x.tap(1, 14, 20, 1);
        x.dawn(1);
        due("none", x.off(0), 0);
        x.look(0, 1, 20, 500);
        due("as it was", x.off(0), 0);
        x.look(0, 1, 21, 500);
        due("gallons", x.off(0), 1);
        x.look(0, 1, 20, 499);
        due("heat", x.off(0), 2);
        x.look(0, 1, 21, 501);
        due("both are one", x.off(0), 3);
        x.look(0, 0, 9000, 2000);
        due("ahead of the TAP", x.off(0), 3);
        x.look(0, 2, 9000, 2000);
        due("a DAY to come", x.off(0), 3);
        x.look(1, 1, 10, 300);
        due("of the other", x.off(0), 3);
        due("the other", x.off(1), 1);
        Due.order(x, "least 1", 1, 0);
        Due.order(x, "least 500", 2, 1);
        due("least 1", x.off(0), 0);
        x.look(0, 1, 22, 500);
        x.look(0, 1, 18, 500);
        x.look(0, 1, 20, 502);
        x.look(0, 1, 20, 498);
        due("farther than 1", x.off(0), 4);
        x.dawn(1);
        due("it has come, and 500 are not too far: gallons are", x.off(0), 5);
        x = new HotSprings();
        x.tap(0, 0, 0, 0);
        x.dawn(1);
        x.look(0, 0, 1, 0);
        due("the first look", x.off(0), 1);
        due("tap", x.off(2), -1);
        due("tap", x.off(-1), -1);
    }

    private static void promise26() {
        x = new HotSprings();
        for (int c = 0; c < 6; c++) {
            x.tap(0, c, 0, 0);
        }
        due("tap", x.drop(-1, 1), -1);
        due("tap ahead of n", x.drop(6, 1000), -1);
        due("n", x.drop(0, -1), -2);
        due("n", x.drop(0, 1000), -2);
        due("one", x.drop(5, 0), 1);
        due("two", x.drop(1, 999), 2);
        due("in place of one", x.drop(5, 3), 2);
        due("three", x.drop(2, 5), 3);
        due("four", x.drop(0, 5), 4);
        due("full", x.drop(3, 5), -4);
        due("bad ahead of full", x.drop(3, 1000), -2);
        due("in place of one", x.drop(0, 6), 4);
    }

    private static void causes(int d, int fewest, int rivals) {
        due("cause(" + d + ", 0)", x.cause(d, 0), fewest);
        due("cause(" + d + ", 1)", x.cause(d, 1), rivals);
    }

    private static void promise27() {
        x = new HotSprings();
        due("what", x.cause(0, -1), -1);
        due("what ahead of d", x.cause(100, 2), -1);
        due("d", x.cause(-1, 0), -2);
        due("d", x.cause(100, 0), -2);
        causes(0, 0, 1);
        x.tap(0, 0, 0, 0);
        x.drop(0, 10);
        causes(9, -5, -5);
        causes(10, 0, 1);
        // By distances 1, 2, 3, 4 and 1 more: 10, 10, 5, 5.
        x.tap(1, 1, 20, 1);
        x.tap(2, 7, 32, 1);
        x.tap(1, 9, 29, 1);
        x.tap(1, 4, 25, 1);
        x.shut(1, true);
        causes(0, 1, 2);
        x.drop(0, 20);
        causes(0, 3, 1);
        causes(4, 3, 1);
        causes(5, 3, 5);
        causes(10, 1, 2);
        x.drop(0, 21);
        causes(0, -5, -5);
        causes(1, 3, 1);
        // The DEEP has 10, 9, 5 from the BORES, and nothing from itself.
        x.drop(0, 5);
        x.drop(2, 10);
        causes(0, -5, -5);
        x.drop(2, 9);
        causes(0, 4, 1);
        x.drop(2, 5);
        causes(0, 8, 1);
        x.drop(2, 7);
        causes(1, -5, -5);
        causes(2, 4, 2);
        x.drop(0, 10);
        x.drop(2, 0);
        causes(0, 2, 1);
    }

    private static void eightBores() {
        x = new HotSprings();
        for (int c = 0; c < 10; c++) {
            x.tap(1, c, 1, 1);
        }
        x.tap(0, 24, 0, 0);
        x.tap(2, 25, 7, 1);
        x.drop(10, 3);
        causes(0, -5, -5);
        x.drop(10, 0);
        causes(0, 0, 1);
        x = new HotSprings();
        x.tap(0, 0, 0, 0);
        for (int c = 1; c < 9; c++) {
            x.tap(1, c, c < 8 ? 1 : 12, 1);
        }
        x.tap(1, 10, 50, 1);
        x.drop(0, 3);
        causes(0, 128, 1);
        // The ninth would be 8.
        x.drop(0, 8);
        causes(0, -5, -5);
        x.drop(0, 11);
        causes(0, -5, -5);
        x = new HotSprings();
        x.tap(1, 0, 8, 1);
        x.tap(0, 1, 0, 0);
        x.drop(1, 4);
        causes(0, 1, 1);
        x.drop(1, 103);
        causes(99, 1, 1);
        x.drop(1, 104);
        causes(99, -5, -5);
        x.drop(1, 4);
        x.drop(0, 1);
        causes(0, -5, -5);
    }

    private static void promise28() {
        x = new HotSprings();
        x.under(0, 1, 1000);
        x.tap(0, 0, 0, 0);
        due("tap", x.tire(1, 1), -1);
        due("tap ahead of n", x.tire(-1, 0), -1);
        due("n", x.tire(0, 0), -2);
        due("n", x.tire(0, 10000), -2);
        due("100 of 1000", x.tire(0, 101), 0);
        // 900 less two quarters is 450, which gives 45.
        due("the next day", x.tire(0, 100), 1);
        due("the next day", x.tire(0, 46), 1);
        due("another day", x.tire(0, 45), 2);
        due("nothing went by", x.count(5), 0);
        due("nothing went by", x.cell(0, 1), 1000);
        due("nothing went by", x.flow(0, 0, 0), -1);
        x.dawn(1);
        due("from TODAY on", x.tire(0, 46), 1);
        x.shut(0, true);
        due("shut", x.tire(0, 1), 1);

        x = new HotSprings();
        wetAndHot(0);
        x.tap(1, 14, 1, 1);
        due("none in 60 days", x.tire(0, 1), -5);
        wetAndHot(800);
        due("by SCALE", x.tire(0, 1), 5);
        wetAndHot(500);
        due("by SCALE", x.tire(0, 1), 10);
        due("SCALE is as it was", x.scale(0), 0);

        x = new HotSprings();
        wetAndHot(500);
        x.tap(1, 14, 6, 1);
        due("the sixtieth day", x.tire(0, 2), 50);
        due("behind the sixtieth", x.tire(0, 1), -5);
        x = new HotSprings();
        wetAndHot(500);
        x.tap(1, 14, 5, 1);
        due("day 50", x.tire(0, 1), 50);
        for (int i = 0; i < 13; i++) {
            x.dawn(30);
        }
        wetAndHot(500);
        x.scale(0);
        due("none up to 400", x.tire(0, 5), -5);
        x.scale(0);
        x.dawn(1);
        due("day 400 does not go by", x.tire(0, 5), -5);
        x.dawn(9);
        x.shut(0, true);
        due("no day is left", x.tire(0, 9999), -5);
    }

    private static void wetAndHot(int heat) {
        for (int c = 0; c < 30; c++) {
            x.under(c, 0, heat);
            x.under(c, 1, 9999);
            x.under(c, 3, 999);
        }
    }

    private static void promise29And30() {
        x = new HotSprings();
        due("cell", x.shake(-1, 0), -1);
        due("cell ahead of change", x.shake(30, 1000), -1);
        due("change", x.shake(0, -1000), -2);
        due("change", x.shake(0, 1000), -2);
        due("one", x.shake(29, -999), 1);
        due("two", x.shake(0, 999), 2);
        due("in place of one", x.shake(29, 1), 2);
        for (int i = 3; i <= 6; i++) {
            due("more", x.shake(i, 0), i);
        }
        due("full", x.shake(7, 0), -4);
        due("bad ahead of full", x.shake(7, 1000), -2);
        due("in place of one", x.shake(6, 9), 6);
        due("cell", x.push(-1, 0), -1);
        due("cell ahead of strength", x.push(30, 100), -1);
        due("strength", x.push(0, 100), -2);
        due("strength", x.push(0, -100), -2);
        due("no push", x.count(7), 0);
        for (int i = 1; i <= 6; i++) {
            due("push", x.push(29, i % 2 == 0 ? 99 : -99), i);
        }
        due("full", x.push(0, 0), -4);
        due("bad ahead of full", x.push(0, 100), -2);
        due("six", x.count(7), 6);
    }

    private static void shifts(String why, int fewest, int rivals) {
        due(why + ": FEWEST", x.shift(0), fewest);
        due(why + ": RIVALS", x.shift(1), rivals);
    }

    private static void promise31() {
        x = new HotSprings();
        due("what", x.shift(-1), -1);
        due("what", x.shift(2), -1);
        shifts("nothing", 0, 1);
        x.push(0, 5);
        x.push(7, -5);
        x.push(0, 10);
        shifts("no change", 0, 1);
        x.shake(1, 5);
        shifts("beside it", 1, 1);
        x.shake(1, -5);
        shifts("negative", 2, 1);
        x.shake(1, 6);
        shifts("none", -5, -5);
        x.shake(1, 15);
        shifts("two", 5, 1);
        x.shake(1, 10);
        shifts("one", 4, 1);
        x.shake(1, 5);
        x.shake(2, 2);
        shifts("half, cut", 1, 1);
        x.shake(2, 3);
        shifts("half of those behind one another, cut each", 6, 1);
        x.shake(1, -5);
        x.shake(2, -2);
        shifts("half of -5, cut", 2, 1);
        x = new HotSprings();
        x.push(7, 9);
        x.shake(0, 4);
        shifts("the first CELL", 1, 1);
        x.shake(0, 9);
        shifts("the first CELL", -5, -5);
        x = new HotSprings();
        x.push(0, 50);
        x.push(8, 4);
        x.shake(3, 0);
        shifts("3 away is nothing", 0, 1);
        x.shake(3, 2);
        shifts("2 away by a row and a column", 2, 1);
        x.shake(14, 4);
        shifts("beside, below", 2, 1);
        x.shake(8, 4);
        shifts("at it", 2, 1);
        x.shake(5, 0);
        x.shake(6, 52);
        shifts("with the first", 3, 1);
        x.shake(13, 2);
        shifts("six", 3, 1);
        x.shake(13, 4);
        shifts("one is missing", -5, -5);
    }

    private static void promise32() {
        x = new HotSprings();
        due("n", x.place(0), -2);
        due("n", x.place(501), -2);
        due("no other TAP: the least", x.place(500), 0);
        x.tap(1, 0, 500, 1);
        due("nothing to give: the least", x.place(500), 1);
        x.under(0, 1, 4000);
        x.under(1, 1, 4000);
        x.under(7, 1, 100);
        due("away from the water", x.place(500), farthestFromHarm());
        due("nothing was made", x.count(0), 1);
        due("nothing went by", x.cell(0, 1), 4000);
        Due.order(x, "apart 10", 0, 0);
        due("nowhere", x.place(1), -5);
        Due.order(x, "apart 9", 0, 1);
        due("the corner", x.place(1), 29);
        Due.order(x, "apart 9;deep 0", 0, 2);
        due("1 deep is too deep", x.place(1), -5);
        Due.order(x, "apart 9;deep 1", 0, 3);
        due("1 deep", x.place(1), 29);
        Due.order(x, "apart 10", 1, 4);
        due("of TODAY", x.place(1), 29);
        for (int i = 0; i < 13; i++) {
            x.dawn(30);
        }
        Due.order(x, "apart 0", 390, 5);
        x.dawn(5);
        due("five DAYS are left", x.place(1) >= 1 ? 1 : 0, 1);
        x.dawn(1);
        due("four DAYS are left", x.place(1), -3);
        due("bad ahead of state", x.place(0), -2);
        x = new HotSprings();
        for (int c = 0; c < 12; c++) {
            due("12 TAPS", x.place(1), c);
            x.tap(0, c, 0, 0);
        }
        due("12 TAPS", x.place(1), -3);
        due("bad ahead of state", x.place(501), -2);
    }

    /** The cell with which TAP 0 gives most, found by making the BORE and letting 5 DAYS go by. */
    private static int farthestFromHarm() {
        int best = -1;
        int most = -1;
        x.image();
        for (int c = 1; c < 30; c++) {
            x.tap(1, c, 500, 1);
            int first = x.count(5);
            x.dawn(5);
            int sum = 0;
            for (int d = first; d < first + 5; d++) {
                sum += x.flow(0, d, 0);
            }
            x.undo();
            if (sum > most) {
                most = sum;
                best = c;
            }
        }
        return best;
    }

    private static void placeTakesLeast() {
        x = new HotSprings();
        for (int c = 0; c < 30; c++) {
            x.under(c, 1, c < 2 || c == 6 ? 1000 : 0);
        }
        x.tap(0, 0, 0, 0);
        // Beside it is where its water comes from; farther off a BORE takes only what flows away.
        due("not beside it", x.place(500) > 1 && x.place(500) != 6 ? 1 : 0, 1);
        due("as DAYS tell", x.place(500), farthestFromHarm());
    }

    private static void promise33() {
        x = new HotSprings();
        Due.tape(x, "deep 1");
        due("what", x.tried(-1, 0), -1);
        due("what", x.tried(2, 0), -1);
        due("day", x.tried(1, 0), -1);
        due("day", x.tried(1, -1), -1);
        due("THE TAPE stays", x.count(6), 6);
        due("there is no TAKER", x.tried(0, 99), -1);
        due("THE TAPE is empty", x.count(6), 0);
        due("first byte", x.tried(0, 0), -10);
        Due.tape(x, "rank 1 k=");
        due("too early", x.tried(0, 0), -19);
        due("THE TAPE is empty", x.count(6), 0);
        x.under(0, 1, 20);
        x.under(0, 0, 400);
        x.tap(1, 0, 20, 1);
        x.taker(0, 0, 2, 100, 0);
        Due.tape(x, "deep 1");
        due("the only TAKER", x.tried(0, 0), 0);
        x.taker(1, 0, 1, 100, 0);
        x.taker(2, 0, 1, 100, 0);
        x.dawn(1);
        tried("deep 3", 0, 1);
        tried("rank 9 k=1", 1, 2);
        tried("rank 9 k=2", 2, 2);
        tried("rank 101 k=0", 1, 2);
        Due.order(x, "rank 50 k=2", 0, 0);
        Due.order(x, "rank 50 k=1", 1, 1);
        Due.order(x, "rank 10 k=0", 2, 2);
        due("by the ROW of that DAY", x.mix(0), 6);
        tried("deep 3", 1, 2);
        tried("rank 60 k=1", 2, 2);
        tried("rank 49 k=0", 0, 1);
        due("nothing was kept", x.count(1), 3);
        due("nothing was kept", x.row(1, 0), 1);
        for (int i = 3; i < 10; i++) {
            Due.order(x, "rank 49 k=2", 1, i);
        }
        tried("deep 3", 2, 2);
        tried("rank 48 k=0", 0, 1);
        due("ten", x.count(1), 10);
        Due.tape(x, "share 3");
        due("day ahead of FAULT", x.tried(1, 1), -1);
        due("FAULT", x.tried(1, 0), -16);
    }

    private static void tried(String text, int first, int served) {
        Due.tape(x, text);
        due("first by " + text, x.tried(0, 99), first);
        Due.tape(x, text);
        due("served by " + text, x.tried(1, 0), served);
        due("THE TAPE is empty", x.count(6), 0);
    }

    public static void main(String[] args) {
        promise24();
        promise25();
        promise26();
        promise27();
        eightBores();
        promise28();
        promise29And30();
        promise31();
        promise32();
        placeTakesLeast();
        promise33();
        Due.end("LooksTest");
    }
}
