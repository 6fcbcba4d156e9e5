/** Promises 1 to 9: a new object, CELLS, TAPS, DAYS, PIPES. */
public final class UnderTest {
    private static HotSprings x;

    private static void due(String call, long got, long want) {
        Due.due(call, got, want);
    }

    private static void all(int what, int n) {
        for (int c = 0; c < 30; c++) {
            x.under(c, what, n);
        }
    }

    private static void promise1() {
        x = new HotSprings();
        for (int what = 0; what <= 8; what++) {
            due("new count(" + what + ")", x.count(what), 0);
        }
        for (int c = 0; c < 30; c++) {
            for (int what = 0; what < 4; what++) {
                due("new cell(" + c + ", " + what + ")", x.cell(c, what), 0);
            }
        }
        due("new flow", x.flow(0, 0, 0), -1);
        due("new mix", x.mix(0), -1);
        due("new want", x.want(0, 0), -1);
        due("new undo", x.undo(), -3);
        due("new text", x.text(0), -10);
        due("new force", x.force(1, 0, 0), 99);
    }

    private static void promise2And3() {
        int[] most = {1500, 9999, 99, 999};
        x = new HotSprings();
        for (int what = 0; what < 4; what++) {
            for (int c : new int[] {0, 17, 29}) {
                due("first", x.under(c, what, c + 1), 0);
                due("most", x.under(c, what, most[what]), c + 1);
                due("too much", x.under(c, what, most[what] + 1), -2);
                due("too little", x.under(c, what, -1), -2);
                due("stays", x.cell(c, what), most[what]);
                due("least", x.under(c, what, 0), most[what]);
                due("is least", x.cell(c, what), 0);
                x.under(c, what, 10 * what + 5);
            }
            due("no cell", x.under(-1, what, 0), -1);
            due("no cell", x.under(30, what, 0), -1);
            due("no cell", x.cell(-1, what), -1);
            due("no cell", x.cell(30, what), -1);
        }
        for (int what = 0; what < 4; what++) {
            due("each its own", x.cell(17, what), 10 * what + 5);
        }
        due("no what", x.under(0, -1, 0), -1);
        due("no what", x.under(0, 4, 0), -1);
        due("no what", x.cell(0, -1), -1);
        due("no what", x.cell(0, 4), -1);
        due("no cell ahead of a bad number", x.under(30, 0, -1), -1);
        due("no what ahead of a bad number", x.under(0, 4, -1), -1);
    }

    private static void promise4() {
        x = new HotSprings();
        due("no kind", x.tap(-1, 0, 1, 1), -1);
        due("no kind", x.tap(3, 0, 1, 1), -1);
        due("no cell", x.tap(0, -1, 1, 1), -1);
        due("no cell", x.tap(1, 30, 0, 0), -1);
        for (int kind = 1; kind <= 2; kind++) {
            due("n", x.tap(kind, 0, 0, 1), -2);
            due("n", x.tap(kind, 0, 501, 1), -2);
            due("depth", x.tap(kind, 0, 1, -1), -2);
            due("depth", x.tap(kind, 0, 1, 100), -2);
        }
        due("nothing was made", x.count(0), 0);
        due("of a SPRING they do not matter", x.tap(0, 29, -7, 1000), 0);
        due("a TAP is there", x.tap(0, 29, 0, 0), -3);
        due("bad ahead of state", x.tap(1, 29, 0, 0), -2);
        due("a BORE beside it, 99 deep", x.tap(1, 28, 500, 99), 1);
        due("a DEEP, 99 deep", x.tap(2, 27, 1, 99), 2);
        due("0 deep", x.tap(2, 26, 1, 0), 3);
        Due.order(x, "deep 10;apart 3", 0, 0);
        Due.order(x, "deep 50;apart 0", 1, 1);
        due("too deep", x.tap(1, 0, 9, 11), -3);
        due("as deep as may be", x.tap(1, 0, 9, 10), 4);
        due("too deep for a DEEP", x.tap(2, 3, 9, 21), -3);
        due("twice as deep", x.tap(2, 3, 9, 20), 5);
        due("2 away by a row and a column", x.tap(1, 7, 9, 1), -3);
        due("2 away by columns", x.tap(1, 5, 9, 1), -3);
        due("a SPRING may be anywhere", x.tap(0, 1, 0, 0), 6);
        due("3 away", x.tap(1, 18, 9, 1), 7);
        due("6 and 11 are ends of rows, not beside one another", x.tap(1, 11, 9, 1), 8);
        x.dawn(1);
        due("another order is in force", x.tap(1, 2, 9, 50), 9);
        due("another order is in force", x.tap(1, 4, 9, 51), -3);
        x.tap(0, 6, 0, 0);
        due("the last", x.tap(0, 7, 0, 0), 11);
        due("full", x.tap(0, 8, 0, 0), -4);
        due("full", x.tap(1, 8, 1, 50), -4);
        due("state ahead of full", x.tap(1, 8, 1, 51), -3);
        due("state ahead of full", x.tap(0, 7, 1, 1), -3);
        due("bad ahead of full", x.tap(1, 8, 501, 1), -2);
        due("none ahead of full", x.tap(3, 8, 501, 1), -1);
        due("count", x.count(0), 12);
    }

    private static void promise5() {
        x = new HotSprings();
        all(1, 1000);
        x.tap(0, 7, 0, 0);
        x.tap(1, 9, 30, 1);
        due("no tap", x.shut(2, true), -1);
        due("no tap", x.shut(-1, false), -1);
        due("open stays open", x.shut(0, false), 0);
        due("is shut", x.shut(0, true), 0);
        due("was shut", x.shut(0, true), 1);
        due("the other is not", x.shut(1, false), 0);
        x.dawn(1);
        due("gives nothing", x.flow(0, 0, 0), 0);
        due("the other gives", x.flow(1, 0, 0), 30);
        due("its water stays", x.count(8), 29970);
        due("was shut", x.shut(0, false), 1);
        x.dawn(1);
        due("gives again", x.flow(0, 1, 0), 100);
    }

    private static void promise6() {
        x = new HotSprings();
        x.under(0, 0, 100);
        x.under(0, 1, 100);
        x.under(5, 0, 807);
        x.under(5, 1, 4003);
        due("no day", x.dawn(0), -2);
        due("no day", x.dawn(-1), -2);
        due("too many days", x.dawn(31), -2);
        due("nothing went by", x.cell(0, 0), 100);
        due("a day", x.dawn(1), 1);
        due("an eighth to each", x.cell(0, 0), 76);
        due("to the right", x.cell(1, 0), 12);
        due("below", x.cell(6, 0), 12);
        due("not farther", x.cell(7, 0), 0);
        due("a quarter to each", x.cell(0, 1), 50);
        due("to the right", x.cell(1, 1), 25);
        due("below", x.cell(6, 1), 25);
        due("cut", x.cell(5, 0), 607);
        due("cut", x.cell(4, 0), 100);
        due("cut", x.cell(11, 0), 100);
        due("cut", x.cell(5, 1), 2003);
        due("cut", x.cell(4, 1), 1000);
        x.dawn(1);
        due("all at once", x.cell(0, 0), 60);
        due("all at once", x.cell(1, 0), 18);
        due("all at once", x.cell(7, 0), 2);
        due("no heat is lost", heat(), 907);
        due("no water is lost", x.count(8), 4103);

        x = new HotSprings();
        all(0, 1490);
        all(1, 9990);
        all(2, 9);
        all(3, 8);
        x.dawn(1);
        due("gets heat", x.cell(29, 0), 1499);
        due("gets water", x.cell(29, 1), 9998);
        x.dawn(1);
        due("no more heat", x.cell(29, 0), 1500);
        due("no more water", x.cell(29, 1), 9999);
        for (int i = 0; i < 13; i++) {
            due("thirty days", x.dawn(30), 32 + 30 * i);
            if (i == 11) {
                break;
            }
        }
        due("thirty more", x.dawn(30), 392);
        due("beyond 400", x.dawn(9), -2);
        due("stays", x.count(5), 392);
        due("up to 400", x.dawn(8), 400);
        due("beyond 400", x.dawn(1), -2);
    }

    private static int heat() {
        int sum = 0;
        for (int c = 0; c < 30; c++) {
            sum += x.cell(c, 0);
        }
        return sum;
    }

    private static void flows(String of, int tap, int day, int gave, int hot, int comes, int warm) {
        due(of + " GAVE", x.flow(tap, day, 0), gave);
        due(of + " HOT", x.flow(tap, day, 1), hot);
        due(of + " COMES", x.flow(tap, day, 2), comes);
        due(of + " WARM", x.flow(tap, day, 3), warm);
    }

    private static void promise7() {
        x = new HotSprings();
        x.under(0, 1, 90);
        x.under(0, 3, 9);
        x.under(0, 0, 300);
        x.under(0, 2, 7);
        x.under(2, 1, 30);
        x.under(4, 1, 30);
        x.under(4, 0, 1500);
        x.under(12, 1, 7);
        x.under(14, 1, 6);
        x.tap(0, 0, 0, 0);
        x.tap(1, 2, 31, 1);
        x.tap(1, 4, 29, 1);
        x.tap(2, 12, 5, 1);
        x.tap(2, 14, 5, 1);
        due("a day that did not go by", x.flow(0, 0, 0), -1);
        x.dawn(1);
        flows("SPRING: water by 10, cut", 0, 0, 9, 307, 9, 307);
        flows("BORE: no more than there is", 1, 0, 30, 0, 30, 0);
        flows("BORE: as told", 2, 0, 29, 1500, 29, 1500);
        flows("DEEP: half more, cut; 5 degrees more", 3, 0, 7, 50, 7, 50);
        flows("DEEP: no more than there is", 4, 0, 6, 50, 6, 50);
        due("its water is less", x.count(8), 99 - 9 + 30 - 30 + 30 - 29 + 7 - 7 + 6 - 6);
        x.tap(0, 29, 0, 0);
        due("ahead of the TAP", x.flow(5, 0, 0), -1);
        x.dawn(1);
        due("ahead of the TAP", x.flow(5, 0, 0), -1);
        due("with the TAP", x.flow(5, 1, 0), 0);
        due("no tap", x.flow(6, 0, 0), -1);
        due("no tap", x.flow(-1, 0, 0), -1);
        due("no day", x.flow(0, -1, 0), -1);
        due("no day", x.flow(0, 2, 0), -1);
        due("no what", x.flow(0, 0, 4), -1);
        due("no what", x.flow(0, 0, -1), -1);
        flows("as it was", 2, 0, 29, 1500, 29, 1500);
    }

    private static void promise8() {
        x = new HotSprings();
        int[] hot = {98, 99, 100, 40, 40};
        for (int i = 0; i < 5; i++) {
            x.under(6 * i, 0, hot[i]);
        }
        x.under(18, 1, 10);
        x.under(24, 1, 11);
        for (int i = 0; i < 5; i++) {
            x.tap(1, 6 * i, 500, 1);
        }
        due("no tap", x.pipe(5, 1), -1);
        due("no tap ahead of a bad length", x.pipe(-1, 100), -1);
        due("length", x.pipe(0, -1), -2);
        due("length", x.pipe(0, 100), -2);
        for (int i = 0; i < 5; i++) {
            due("was 0", x.pipe(i, 5), 0);
            due("was 5", x.pipe(i, i < 3 ? 99 : 40), 5);
        }
        x.dawn(1);
        due("0 at least", x.flow(0, 0, 3), 0);
        due("99 colder", x.flow(1, 0, 3), 0);
        due("99 colder", x.flow(2, 0, 3), 1);
        due("400 by 20", x.flow(3, 0, 3), 20);
        due("400 by 21, cut", x.flow(4, 0, 3), 21);
        due("HOT is not less", x.flow(4, 0, 1), 40);
        due("was 99", x.pipe(2, 0), 99);
        due("as it was that day", x.flow(2, 0, 3), 1);
    }

    private static void hotDay(int heat, int scaleThen) {
        x = new HotSprings();
        all(0, heat);
        all(1, 5000);
        x.tap(1, 14, 20, 1);
        x.dawn(1);
        due("SCALE behind a day of " + heat, x.scale(0), scaleThen);
        due("CLEANED", x.scale(0), 0);
    }

    private static void promise9() {
        hotDay(0, 0);
        hotDay(499, 0);
        hotDay(500, 1);
        hotDay(799, 1);
        hotDay(800, 2);
        hotDay(1500, 2);
        x = new HotSprings();
        all(0, 800);
        all(1, 9999);
        all(3, 999);
        x.tap(1, 14, 1, 1);
        x.tap(1, 0, 500, 1);
        x.tap(1, 17, 500, 1);
        x.shut(2, true);
        due("no tap", x.scale(3), -1);
        due("no tap", x.scale(-1), -1);
        x.dawn(6);
        due("SCALE 8", x.flow(1, 4, 2), 500);
        due("SCALE 10", x.flow(1, 5, 2), 499);
        due("GAVE is not less", x.flow(1, 5, 0), 500);
        due("1 less 1", x.flow(0, 5, 2), 0);
        x.dawn(7);
        due("SCALE 24, 0 at least", x.flow(0, 12, 2), 0);
        due("SCALE 18", x.flow(1, 9, 2), 499);
        due("SCALE 20", x.flow(1, 10, 2), 498);
        due("it had", x.scale(1), 26);
        due("gave nothing", x.scale(2), 0);
        x.dawn(1);
        due("CLEANED", x.flow(1, 13, 2), 500);
        due("of a DEEP as hot as it came", deepScale(450), 1);
        due("of a DEEP as hot as it came", deepScale(449), 0);
        due("of a DEEP as hot as it came", deepScale(750), 2);
        due("ahead of the PIPE", pipeScale(), 2);
    }

    private static int deepScale(int heat) {
        x = new HotSprings();
        x.under(0, 0, heat);
        x.under(0, 1, 10);
        x.tap(2, 0, 2, 1);
        x.dawn(1);
        return x.scale(0);
    }

    private static int pipeScale() {
        x = new HotSprings();
        x.under(0, 0, 800);
        x.under(0, 1, 10);
        x.tap(1, 0, 2, 1);
        x.pipe(0, 99);
        x.dawn(1);
        return x.scale(0);
    }

    public static void main(String[] args) {
        promise1();
        promise2And3();
        promise4();
        promise5();
        promise6();
        promise7();
        promise8();
        promise9();
        Due.end("UnderTest");
    }
}
