/** Promises 22 and 23: who is SERVED BY RANK, and how a short dawn is parted. */
public final class MixTest {
    private static HotSprings x;

    private static void due(String call, long got, long want) {
        Due.due(call, got, want);
    }

    /** TAPS of these gallons and HEATS, two and two, in CELLS that touch nothing on the first DAY. */
    private static void taps(int... gallonsAndHeats) {
        x = new HotSprings();
        for (int i = 0; i < gallonsAndHeats.length / 2; i++) {
            x.under(5 * i, 0, gallonsAndHeats[2 * i + 1]);
            x.under(5 * i, 1, gallonsAndHeats[2 * i]);
            x.tap(1, 5 * i, 500, 1);
        }
    }

    /** TAKERS of these gallons and HEATS, two and two; the first is the first in THE ROW. */
    private static void takers(int... gallonsAndHeats) {
        for (int i = 0; i < gallonsAndHeats.length / 2; i++) {
            x.taker(0, 0, gallonsAndHeats[2 * i], gallonsAndHeats[2 * i + 1], 0);
        }
    }

    private static void served(String why, int bits) {
        x.dawn(1);
        due(why, x.mix(0), bits);
    }

    private static void promise22() {
        taps(25, 400);
        takers(2, 400);
        served("two tens as hot as it NEEDS", 1);
        taps(25, 400);
        takers(2, 401);
        served("not hot enough", 0);
        taps(29, 400);
        takers(3, 0);
        served("cut", 0);
        taps(30, 400);
        takers(3, 0);
        served("three", 1);
        taps(500, 400);
        takers(4, 0, 3, 0, 2, 0, 1, 0);
        served("6 at most, and those that can't are left out", 5);
        taps(10, 800, 30, 400, 10, 0);
        takers(1, 600, 1, 800);
        served("the hot ten is gone for one", 1);
        taps(10, 800, 30, 400, 10, 0);
        takers(1, 400, 1, 800);
        served("the first can take another", 3);
        taps(10, 800, 30, 400, 10, 0);
        takers(2, 400, 3, 400);
        served("mixed: 800 and 0 make two times 400", 3);
        taps(10, 800, 30, 400, 10, 0);
        takers(2, 401, 3, 400);
        served("mixed", 1);
        taps(10, 799, 10, 0);
        takers(2, 400, 2, 399);
        served("one too cold", 2);
        taps(10, 500, 10, 500, 10, 500, 10, 500, 500, 1500);
        takers(4, 500, 1, 0);
        served("TAPS 0 to 3 alone", 1);
        taps(60, 300, 60, 400, 60, 500, 60, 600);
        takers(4, 600, 4, 500, 4, 500, 4, 400, 4, 400, 4, 300, 1, 0);
        served("all that there is", 63);
        taps(20, 300, 20, 500);
        takers(2, 400, 2, 400);
        served("one of each for both", 3);
        taps(10, 100, 10, 100, 20, 500, 10, 700);
        takers(2, 601, 2, 600, 1, 500, 1, 100, 1, 100);
        served("not two of 700", 30);
        taps(10, 100, 10, 100, 10, 500, 10, 700);
        takers(3, 434, 3, 433, 1, 100);
        served("500, 700 and 100 make three times 433", 6);
        taps(0, 0, 0, 0, 10, 0, 20, 300);
        takers(2, 300, 1, 0);
        served("of the fourth two", 3);
        taps();
        takers(1, 0);
        served("no TAP", 0);
        taps(500, 500);
        served("no TAKER", 0);
    }

    private static void byRank() {
        taps(20, 400);
        x.taker(1, 0, 2, 390, 0);
        x.taker(2, 0, 2, 420, 0);
        x.taker(3, 0, 2, 801, 0);
        x.taker(5, 0, 2, 416, 0);
        x.dawn(2);
        due("a BOUGHT is ahead, but too hot", x.mix(0), 1);
        Due.order(x, "rank 5 k=3", 0, 0);
        due("GLASS", x.mix(0), 4);
        Due.order(x, "rank 4 k=2", 1, 1);
        due("not of that DAY", x.mix(0), 4);
        due("HOUSE, but there is nothing", x.mix(1), 0);
        Due.order(x, "rank 4 k=2", 0, 2);
        due("HOUSE", x.mix(0), 2);
        due("day", x.mix(-1), -1);
        due("day", x.mix(2), -1);
        x.under(7, 0, 900);
        x.under(7, 1, 90);
        x.tap(1, 7, 60, 1);
        x.dawn(1);
        due("six tens for three", x.mix(2), 14);
        due("a TAP that was not there", x.mix(0), 2);
    }

    private static void scaledAndPiped() {
        x = new HotSprings();
        x.under(0, 0, 800);
        x.under(0, 1, 10);
        x.tap(1, 0, 10, 1);
        x.pipe(0, 2);
        x.taker(0, 0, 1, 799, 0);
        x.taker(0, 0, 1, 800, 0);
        x.dawn(1);
        due("as WARM as it came: 799", x.mix(0), 1);
        x = new HotSprings();
        for (int c = 0; c < 30; c++) {
            x.under(c, 0, 800);
            x.under(c, 1, 9999);
            x.under(c, 3, 999);
        }
        x.tap(1, 0, 10, 1);
        x.taker(0, 0, 1, 0, 0);
        x.dawn(6);
        due("SCALE 8", x.mix(4), 1);
        due("SCALE 10", x.mix(5), 0);
    }

    private static void wants(int n, int... parts) {
        for (int i = 0; i < parts.length; i++) {
            due("want(" + n + ", " + i + ")", x.want(n, i), parts[i]);
        }
    }

    private static void promise23() {
        x = new HotSprings();
        x.dawn(3);
        x.taker(0, 0, 4, 0, 3);
        x.taker(0, 0, 1, 0, 2);
        x.taker(0, 0, 3, 0, 1);
        x.taker(0, 0, 2, 0, 0);
        // THE ROW is 3, 2, 1, 0.
        wants(0, 0, 0, 0, 0);
        wants(1, 0, 0, 0, 1);
        wants(4, 0, 0, 2, 2);
        wants(6, 0, 1, 3, 2);
        wants(9, 3, 1, 3, 2);
        wants(999, 4, 1, 3, 2);
        Due.order(x, "share 1", 3, 0);
        wants(0, 0, 0, 0, 0);
        wants(1, 0, 0, 0, 1);
        wants(5, 2, 0, 1, 2);
        wants(7, 2, 0, 3, 2);
        wants(10, 4, 1, 3, 2);
        wants(11, 4, 1, 3, 3);
        wants(999, 399, 100, 300, 200);
        Due.order(x, "share 2", 3, 1);
        wants(0, 0, 0, 0, 0);
        wants(3, 0, 1, 1, 1);
        wants(5, 1, 1, 1, 2);
        wants(6, 1, 1, 2, 2);
        wants(9, 3, 1, 3, 2);
        wants(10, 4, 1, 3, 2);
        wants(999, 4, 1, 3, 2);
        Due.order(x, "share 0;rank 1 t=0&n>3", 2, 2);
        Due.order(x, "share 0", 4, 3);
        wants(1, 1, 0, 0, 0);
        x.dawn(1);
        wants(5, 4, 0, 0, 1);
        due("n", x.want(-1, 0), -2);
        due("n", x.want(1000, 0), -2);
        due("taker", x.want(1, -1), -1);
        due("taker ahead of n", x.want(1000, 4), -1);
    }

    public static void main(String[] args) {
        promise22();
        byRank();
        scaledAndPiped();
        promise23();
        Due.end("MixTest");
    }
}
