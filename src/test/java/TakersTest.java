/** Promises 14 to 21: TAKERS, THE ROW, SALES, USES. */
public final class TakersTest {
    private static HotSprings x;

    private static void due(String call, long got, long want) {
        Due.due(call, got, want);
    }

    private static void promise14() {
        x = new HotSprings();
        x.dawn(5);
        due("kind", x.taker(-1, 0, 1, 0, 0), -1);
        due("kind", x.taker(6, 0, 1, 0, 0), -1);
        due("tap", x.taker(0, -1, 1, 0, 0), -1);
        due("tap ahead of n", x.taker(0, 12, 0, 0, 0), -1);
        due("n", x.taker(0, 0, 0, 0, 0), -2);
        due("n", x.taker(0, 0, 5, 0, 0), -2);
        due("heat", x.taker(0, 0, 1, -1, 0), -2);
        due("heat", x.taker(0, 0, 1, 1501, 0), -2);
        due("since", x.taker(0, 0, 1, 0, -1), -2);
        due("since", x.taker(0, 0, 1, 0, 6), -2);
        due("none", x.count(2), 0);
        due("a tap that is not there", x.taker(0, 11, 4, 1500, 5), 0);
        for (int i = 1; i < 8; i++) {
            due("next", x.taker(i % 6, 0, 1, 0, 0), i);
        }
        due("full", x.taker(0, 0, 1, 0, 0), -4);
        due("bad ahead of full", x.taker(0, 0, 1, 0, 6), -2);
        due("none ahead of full", x.taker(6, 0, 1, 0, 6), -1);
        due("eight", x.count(2), 8);
    }

    private static void needs(int kind, int heat, int want) {
        x = new HotSprings();
        x.taker(kind, 0, 1, heat, 0);
        due("needs of " + kind + " for " + heat, x.of(0, 0), want);
    }

    private static void promise15() {
        needs(0, 0, 0);
        needs(0, 1500, 1500);
        needs(1, 0, 10);
        needs(1, 1500, 1510);
        needs(2, 19, 0);
        needs(2, 20, 0);
        needs(2, 21, 1);
        needs(3, 0, 0);
        needs(3, 901, 450);
        needs(4, 0, 0);
        needs(4, 321, 301);
        needs(5, 321, 306);
        needs(5, 20, 5);
        // A RIGHT's is 0 here, and a BOUGHT's 5 more.
        needs(5, 0, 5);
        needs(5, 18, 5);
        x = new HotSprings();
        x.taker(0, 0, 1, 0, 0);
        x.taker(4, 0, 2, 0, 0);
        x.taker(5, 0, 3, 0, 0);
        x.taker(2, 0, 4, 0, 0);
        due("rank", x.of(0, 1), 100);
        due("a RIGHT", x.of(1, 1), 99);
        due("a BOUGHT", x.of(2, 1), 98);
        due("a HOUSE", x.of(3, 1), 100);
        due("place", x.of(0, 2), 2);
        due("place", x.of(1, 2), 1);
        due("place", x.of(2, 2), 0);
        due("place", x.of(3, 2), 3);
        Due.order(x, "rank 0 k=4|k=5", 0, 0);
        Due.order(x, "rank 50 n>0", 1, 1);
        due("NONE may be it", x.of(1, 1), -1);
        due("below 0", x.of(2, 1), -2);
        x.dawn(1);
        due("of TODAY", x.of(2, 1), 48);
        due("of TODAY", x.of(0, 1), 50);
        due("taker", x.of(4, 0), -1);
        due("taker", x.of(-1, 0), -1);
        due("what", x.of(0, 3), -1);
        due("what", x.of(0, -1), -1);
    }

    private static void promise16() {
        x = new HotSprings();
        for (int kind = 0; kind < 6; kind++) {
            x.taker(kind, 0, 1 + kind % 4, 0, 0);
        }
        int[] under = {63, 2, 52, 8, 48, 32};
        for (int kind = 0; kind < 6; kind++) {
            for (int k = 0; k < 6; k++) {
                due("as(" + kind + ", " + k + ")", x.as(kind, k), (under[k] >> kind & 1) == 1 ? 1 + kind % 4 : -6);
            }
        }
        due("taker", x.as(6, 0), -1);
        due("taker", x.as(-1, 0), -1);
        due("k", x.as(0, 6), -1);
        due("k", x.as(0, -1), -1);
    }

    private static void row(int day, int... takers) {
        for (int i = 0; i < takers.length; i++) {
            due("row(" + day + ", " + i + ")", x.row(day, i), takers[i]);
        }
    }

    private static void promise17() {
        x = new HotSprings();
        due("nobody", x.row(0, 0), -1);
        x.dawn(9);
        x.taker(0, 0, 1, 0, 7);
        x.taker(0, 1, 1, 0, 3);
        x.taker(0, 2, 1, 0, 7);
        x.taker(0, 3, 1, 0, 3);
        x.taker(5, 4, 1, 0, 9);
        row(0, 4, 1, 3, 0, 2);
        Due.order(x, "rank 1 t=2;rank 3 t=4;rank 2 t=3", 4, 0);
        row(3, 4, 1, 3, 0, 2);
        row(4, 2, 4, 3, 1, 0);
        row(400, 2, 4, 3, 1, 0);
        Due.order(x, "rank 100 t=2", 6, 1);
        row(5, 2, 4, 3, 1, 0);
        row(6, 4, 3, 1, 0, 2);
        due("of TODAY", x.of(2, 2), 4);
        due("of TODAY", x.of(1, 2), 2);
        due("i", x.row(0, -1), -1);
        due("i", x.row(0, 5), -1);
        due("i ahead of day", x.row(401, 5), -1);
        due("day", x.row(-1, 0), -2);
        due("day", x.row(401, 0), -2);
    }

    private static void promise18() {
        x = new HotSprings();
        x.taker(0, 0, 1, 0, 0);
        x.dawn(3);
        due("taker", x.sell(1, 0, 1, 0), -1);
        due("taker", x.sell(-1, 0, 1, 0), -1);
        due("by", x.sell(0, -1, 1, 0), -1);
        due("by", x.sell(0, 10, 1, 0), -1);
        due("to", x.sell(0, 0, -1, 0), -1);
        due("to ahead of day", x.sell(0, 0, 10, 4), -1);
        due("day", x.sell(0, 0, 1, -1), -2);
        due("day", x.sell(0, 0, 1, 4), -2);
        due("one OWNER", x.sell(0, 3, 3, 0), -2);
        due("none", x.count(3), 0);
        for (int i = 1; i <= 30; i++) {
            due("sale " + i, x.sell(0, i % 10, 9 - i % 10, i % 4), i);
        }
        due("full", x.sell(0, 0, 1, 0), -4);
        due("bad ahead of full", x.sell(0, 1, 1, 0), -2);
        due("thirty", x.count(3), 30);
    }

    private static void whose(int day, int e, int owner) {
        due("whose(0, " + day + ", " + e + ")", x.whose(0, day, e), owner);
    }

    private static void promise19() {
        x = new HotSprings();
        x.dawn(10);
        x.taker(0, 0, 1, 0, 0);
        x.taker(0, 0, 1, 0, 0);
        whose(0, -1, 0);
        x.sell(0, 2, 3, 5);
        x.sell(0, 0, 2, 5);
        x.sell(0, 2, 4, 7);
        x.sell(1, 0, 9, 0);
        x.sell(0, 0, 5, 6);
        x.sell(0, 4, 0, 10);
        whose(4, -1, 0);
        // Of one DAY as told: OWNER 2 had nothing yet to sell.
        whose(5, -1, 2);
        whose(6, -1, 2);
        whose(7, -1, 4);
        whose(9, -1, 4);
        whose(10, -1, 0);
        whose(400, -1, 0);
        whose(400, 0, 0);
        whose(400, 1, 0);
        whose(400, 2, 2);
        whose(400, 3, 4);
        whose(6, 3, 2);
        whose(400, 5, 4);
        whose(400, 6, 0);
        due("the other", x.whose(1, 0, -1), 9);
        due("the other", x.whose(1, 0, 3), 0);
        x.sell(0, 0, 7, 2);
        whose(1, -1, 0);
        whose(2, -1, 7);
        whose(400, -1, 7);
        whose(400, 6, 0);
        whose(400, 0, 0);
        x.sell(0, 7, 2, 4);
        whose(10, -1, 3);
        due("taker", x.whose(2, 0, -1), -1);
        due("taker", x.whose(-1, 0, -1), -1);
        due("e", x.whose(0, 0, -2), -1);
        due("e", x.whose(0, 0, 8), 0);
        due("e ahead of day", x.whose(0, 401, 9), -1);
        due("day", x.whose(0, 401, 0), -2);
        onDay0();
        due("day", x.whose(0, -1, 0), -2);
    }

    private static void onDay0() {
        x = new HotSprings();
        x.taker(0, 0, 1, 0, 0);
        x.sell(0, 0, 1, 0);
        whose(0, -1, 1);
        x.sell(0, 1, 2, 0);
        whose(0, -1, 2);
        x.sell(0, 2, 3, 0);
        whose(0, -1, 3);
        whose(0, 2, 2);
    }

    private static void promise20() {
        x = new HotSprings();
        x.dawn(30);
        x.taker(0, 0, 1, 0, 4);
        x.taker(0, 0, 1, 0, 0);
        due("taker", x.used(2, 4), -1);
        due("taker", x.used(-1, 4), -1);
        due("ahead of since", x.used(0, 3), -2);
        due("behind TODAY", x.used(0, 31), -2);
        due("since", x.used(0, 4), 1);
        due("told", x.used(0, 4), -3);
        due("TODAY", x.used(0, 30), 2);
        for (int i = 3; i <= 20; i++) {
            due("use " + i, x.used(0, 30 - i), i);
        }
        due("full", x.used(0, 5), -4);
        due("state ahead of full", x.used(0, 30), -3);
        due("bad ahead of full", x.used(0, 3), -2);
        due("of each", x.used(1, 30), 1);
        due("of each", x.used(1, 0), 2);
    }

    private static void promise21() {
        x = new HotSprings();
        x.dawn(20);
        x.taker(0, 0, 1, 0, 5);
        due("without an order", x.lapsed(0, 104), 0);
        due("without an order", x.lapsed(0, 105), 1);
        Due.order(x, "lapse 4", 0, 0);
        Due.order(x, "lapse 10", 25, 1);
        due("ahead of since", x.lapsed(0, 0), 0);
        due("since", x.lapsed(0, 5), 0);
        due("four days", x.lapsed(0, 9), 0);
        due("five days", x.lapsed(0, 10), 1);
        x.used(0, 12);
        due("ahead of the use", x.lapsed(0, 11), 1);
        due("used", x.lapsed(0, 12), 0);
        due("four days", x.lapsed(0, 16), 0);
        due("five days", x.lapsed(0, 17), 1);
        x.used(0, 18);
        x.used(0, 7);
        due("told by days, not as told", x.lapsed(0, 22), 0);
        due("told by days, not as told", x.lapsed(0, 11), 0);
        due("five days", x.lapsed(0, 23), 1);
        due("lapse of that DAY", x.lapsed(0, 25), 0);
        due("lapse of that DAY", x.lapsed(0, 28), 0);
        due("lapse of that DAY", x.lapsed(0, 29), 1);
        due("day", x.lapsed(0, 400), 1);
        due("day", x.lapsed(0, 401), -2);
        due("day", x.lapsed(0, -1), -2);
        due("taker", x.lapsed(1, 401), -1);
        due("taker", x.lapsed(-1, 0), -1);
        Due.order(x, "lapse 0", 0, 2);
        due("used that day", x.lapsed(0, 18), 0);
        due("not used that day", x.lapsed(0, 19), 1);
    }

    public static void main(String[] args) {
        promise14();
        promise15();
        promise16();
        promise17();
        promise18();
        promise19();
        promise20();
        promise21();
        Due.end("TakersTest");
    }
}
