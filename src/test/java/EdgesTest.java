/** What still goes, at the edges that the document names: by promises, the least, the most, the first and the last. */
public final class EdgesTest {
    private static HotSprings x;

    private static void due(String call, long got, long want) {
        Due.due(call, got, want);
    }

    private static void all(int what, int n) {
        for (int c = 0; c < 30; c++) {
            x.under(c, what, n);
        }
    }

    private static void cells(String why, int what, int... cellsAndNumbers) {
        for (int i = 0; i < cellsAndNumbers.length; i += 2) {
            due(why + ": cell(" + cellsAndNumbers[i] + ", " + what + ")", x.cell(cellsAndNumbers[i], what), cellsAndNumbers[i + 1]);
        }
    }

    private static void toDay(int day) {
        while (x.count(5) + 30 <= day) {
            x.dawn(30);
        }
        if (x.count(5) < day) {
            x.dawn(day - x.count(5));
        }
    }

    private static void under() {
        int[] most = {1500, 9999, 99, 999};
        x = new HotSprings();
        for (int what = 0; what < 4; what++) {
            for (int c = 0; c < 30; c++) {
                due("the most", x.under(c, what, most[what]), 0);
            }
            for (int c = 0; c < 30; c++) {
                due("the most", x.cell(c, what), most[what]);
                due("the same again", x.under(c, what, most[what]), most[what]);
            }
        }
        due("WATER of all CELLS", x.count(8), 299970);
        x.dawn(30);
        cells("full stays full", 0, 0, 1500, 29, 1500);
        cells("full stays full", 1, 0, 9999, 29, 9999);
        cells("what they get stays", 2, 0, 99, 29, 99);
        cells("what they get stays", 3, 0, 999, 29, 999);
    }

    private static void besideBySides() {
        for (int what = 0; what < 2; what++) {
            int n = what == 0 ? 800 : 400;
            x = new HotSprings();
            x.under(0, what, n);
            x.dawn(1);
            cells("first corner", what, 0, n - 200, 1, 100, 6, 100, 7, 0, 5, 0, 24, 0);
            x = new HotSprings();
            x.under(5, what, n);
            x.dawn(1);
            cells("end of a row", what, 5, n - 200, 4, 100, 11, 100, 6, 0, 0, 0, 10, 0);
            x = new HotSprings();
            x.under(24, what, n);
            x.dawn(1);
            cells("start of the last row", what, 24, n - 200, 25, 100, 18, 100, 23, 0, 19, 0);
            x = new HotSprings();
            x.under(29, what, n);
            x.dawn(1);
            cells("last corner", what, 29, n - 200, 28, 100, 23, 100, 24, 0, 22, 0, 0, 0);
            x = new HotSprings();
            x.under(12, what, n);
            x.dawn(1);
            cells("start of a row", what, 12, n - 300, 6, 100, 13, 100, 18, 100, 11, 0, 17, 0, 7, 0);
            x = new HotSprings();
            x.under(14, what, n);
            x.dawn(1);
            cells("inside", what, 14, n - 400, 8, 100, 13, 100, 15, 100, 20, 100, 7, 0, 9, 0, 19, 0, 21, 0);
        }
    }

    private static void differences() {
        x = new HotSprings();
        all(0, 10);
        x.under(14, 0, 17);
        x.dawn(1);
        cells("7 is no eighth", 0, 14, 17, 13, 10, 20, 10);
        x.under(14, 0, 18);
        x.dawn(1);
        cells("8 is one to each", 0, 14, 14, 8, 11, 13, 11, 15, 11, 20, 11);
        x = new HotSprings();
        all(0, 20);
        x.under(14, 0, 5);
        x.dawn(1);
        cells("15 to the one that had less: one from each", 0, 14, 9, 8, 19, 13, 19);
        x = new HotSprings();
        all(1, 10);
        x.under(14, 1, 13);
        x.dawn(1);
        cells("3 is no quarter", 1, 14, 13, 15, 10);
        x.under(14, 1, 14);
        x.dawn(1);
        cells("4 is one to each", 1, 14, 10, 15, 11, 20, 11);
        x = new HotSprings();
        x.under(14, 1, 9999);
        x.dawn(1);
        cells("the greatest difference", 1, 14, 3, 8, 2499, 13, 2499, 15, 2499, 20, 2499);
        x = new HotSprings();
        all(1, 9999);
        x.under(14, 1, 0);
        x.dawn(1);
        cells("the greatest difference", 1, 14, 9996, 8, 7500);
    }

    private static void atMostAheadOfAll() {
        x = new HotSprings();
        x.under(0, 0, 1450);
        x.under(0, 2, 99);
        x.under(0, 1, 9990);
        x.under(0, 3, 999);
        x.tap(0, 0, 0, 0);
        x.dawn(1);
        due("a tenth of 9999", x.flow(0, 0, 0), 999);
        due("as hot as 1500", x.flow(0, 0, 1), 1500);
        cells("eighths of 1500", 0, 0, 1126, 1, 187, 6, 187);
        cells("quarters of 9000", 1, 0, 4500, 1, 2250, 6, 2250);
    }

    private static void taps() {
        x = new HotSprings();
        all(0, 1500);
        all(1, 2000);
        due("least", x.tap(1, 0, 1, 0), 0);
        due("most", x.tap(1, 2, 500, 99), 1);
        due("least", x.tap(2, 4, 1, 0), 2);
        due("most", x.tap(2, 6, 500, 99), 3);
        due("odd", x.tap(2, 8, 5, 1), 4);
        due("even", x.tap(2, 10, 4, 1), 5);
        due("the last CELL", x.tap(0, 29, 0, 0), 6);
        x.under(12, 1, 9);
        due("9 gallons by 10", x.tap(0, 12, Integer.MIN_VALUE, Integer.MAX_VALUE), 7);
        x.under(14, 1, 10);
        due("10 gallons by 10", x.tap(0, 14, Integer.MAX_VALUE, Integer.MIN_VALUE), 8);
        x.dawn(1);
        int[] gave = {1, 500, 1, 750, 7, 6, 200, 0, 1};
        for (int tap = 0; tap < gave.length; tap++) {
            due("GAVE of " + tap, x.flow(tap, 0, 0), gave[tap]);
            due("COMES of " + tap, x.flow(tap, 0, 2), gave[tap]);
            due("HOT of " + tap, x.flow(tap, 0, 1), tap >= 2 && tap <= 5 ? 1550 : 1500);
        }
        due("WATER is less", x.count(8), 28 * 2000 + 19 - 1466);
    }

    /** A BORE or DEEP of that depth at CELL 29, under an ORDER, besides a SPRING at CELL 0. */
    private static void mayBe(String order, int kind, int depth, int want) {
        x = new HotSprings();
        x.tap(0, 0, 0, 0);
        Due.order(x, order, 0, 0);
        due(order + ": kind " + kind + ", depth " + depth, x.tap(kind, 29, 1, depth), want);
    }

    private static void depths() {
        mayBe("deep 0", 1, 0, 1);
        mayBe("deep 0", 1, 1, -3);
        mayBe("deep 0", 2, 0, 1);
        mayBe("deep 0", 2, 1, -3);
        mayBe("deep 1", 2, 2, 1);
        mayBe("deep 1", 2, 3, -3);
        mayBe("deep 49", 2, 98, 1);
        mayBe("deep 49", 2, 99, -3);
        mayBe("deep 50", 2, 99, 1);
        mayBe("deep 98", 1, 98, 1);
        mayBe("deep 98", 1, 99, -3);
        mayBe("deep 999", 1, 99, 1);
        mayBe("deep 999", 2, 99, 1);
        mayBe("apart 9", 1, 1, 1);
        mayBe("apart 10", 1, 1, -3);
        mayBe("apart 9", 2, 1, 1);
        mayBe("apart 10", 2, 1, -3);
        mayBe("apart 999", 1, 1, -3);
        mayBe("apart 999", 0, 1, 1);
        mayBe("deep 0", 0, 99, 1);
        x = new HotSprings();
        Due.order(x, "apart 999", 0, 0);
        due("no other TAP", x.tap(1, 14, 1, 1), 0);
        Due.order(x, "apart 0", 0, 1);
        due("beside it", x.tap(1, 15, 1, 1), 1);
        due("apart 0, but a TAP is there", x.tap(1, 14, 1, 1), -3);
        Due.order(x, "apart 1", 0, 2);
        due("beside it", x.tap(2, 13, 1, 1), 2);
        Due.order(x, "apart 2", 0, 3);
        due("beside a column's", x.tap(1, 16, 1, 1), -3);
        due("beside a row's", x.tap(1, 20, 1, 1), -3);
        due("a row and a column off", x.tap(1, 22, 1, 1), 3);
    }

    private static void shutEach() {
        x = new HotSprings();
        all(1, 1000);
        for (int tap = 0; tap < 12; tap++) {
            x.tap(1, 2 * tap, 10 + tap, 1);
        }
        for (int tap = 0; tap < 12; tap++) {
            due("was open", x.shut(tap, true), 0);
        }
        for (int tap = 0; tap < 12; tap += 2) {
            due("was shut", x.shut(tap, false), 1);
        }
        x.dawn(1);
        for (int tap = 0; tap < 12; tap++) {
            due("GAVE of " + tap, x.flow(tap, 0, 0), tap % 2 == 0 ? 10 + tap : 0);
            due("COMES of " + tap, x.flow(tap, 0, 2), tap % 2 == 0 ? 10 + tap : 0);
            due("as it is", x.shut(tap, false), tap % 2);
        }
    }

    private static void lastDays() {
        x = new HotSprings();
        all(1, 9999);
        all(3, 999);
        x.tap(1, 7, 20, 1);
        toDay(370);
        due("30 DAYS up to 400", x.dawn(30), 400);
        x.tap(1, 9, 20, 1);
        due("the last DAY", x.flow(0, 399, 0), 20);
        due("the first DAY", x.flow(0, 0, 0), 20);
        due("DAY 400 did not go by", x.flow(0, 400, 0), -1);
        due("a TAP of DAY 400", x.flow(1, 399, 0), -1);
        due("a TAKER since DAY 400", x.taker(0, 0, 2, 0, 400), 0);
        due("since DAY 0", x.taker(0, 0, 1, 0, 0), 1);
        due("the last DAY", x.mix(399), 2);
        due("the first DAY", x.mix(0), 2);
        due("USED on DAY 400", x.used(0, 400), 1);
        due("LAPSED on DAY 400", x.lapsed(0, 400), 0);
        due("LAPSED on DAY 400", x.lapsed(1, 400), 1);
        due("a SALE on DAY 400", x.sell(0, 0, 9, 400), 1);
        due("WHOSE on DAY 400", x.whose(0, 400, -1), 9);
        due("WHOSE on DAY 399", x.whose(0, 399, -1), 0);
        due("image", x.image(), 400);
        due("undo", x.undo(), 400);
        Due.tape(x, "rank 1 n<2");
        due("an ORDER from DAY 400 on is tried", x.tried(0, 0), 1);
        Due.order(x, "rank 7 n>0", 400, 0);
        due("from DAY 400 on", x.force(0, 1, 400), 7);
        due("RANK TODAY", x.of(1, 1), 7);
        due("not ahead of it", x.why(0, 1, 399), -5);
    }

    private static void feeds() {
        x = new HotSprings();
        for (int i = 1; i <= 15; i++) {
            due("120 bytes", x.feed(-1L, 8), 8 * i);
        }
        due("not one more", x.feed('d', 1), -4);
        due("byte 255 is no word", x.text(0), -10);
        due("one lowest byte", x.feed(Due.word("........") << 8 | 'd', 1), 1);
        due("two lowest bytes", x.feed(Long.MIN_VALUE | 'e' << 8 | 'e', 2), 3);
        due("eight bytes", x.feed(Due.word("p 999;de"), 8), 11);
        due("seven lowest bytes", x.feed(-1L << 56 | Due.word("ep 0;de"), 7), 18);
        due("three lowest bytes", x.feed(-1L << 24 | Due.word("ep "), 3), 21);
        due("one", x.feed('7', 1), 22);
        due("an ORDER", x.text(0), 0);
        due("the last CLAUSE", x.why(1, 0, 0), 2);
        due("its number", x.force(1, 0, 0), 7);
    }

    private static void orders() {
        x = new HotSprings();
        x.taker(0, 0, 1, 0, 0);
        Due.order(x, "rank 0 n>0;deep 1;apart 2;lapse 3;least 4;share 1;deep 6;deep 7", 0, 0);
        due("the eighth CLAUSE", x.force(1, 0, 0), 7);
        due("the eighth CLAUSE", x.why(1, 0, 0), 7);
        due("the first CLAUSE", x.why(0, 0, 0), 0);
        due("rank 0", x.force(0, 0, 0), 0);
        due("the sixth CLAUSE", x.why(5, 0, 0), 5);
        Due.order(x, "rank 999 n<2;lapse 999", 400, 1);
        due("of DAY 400", x.why(0, 0, 400), 100);
        due("of DAY 400", x.force(3, 0, 400), 999);
        due("of DAY 399", x.why(0, 0, 399), 0);
        due("of DAY 399", x.force(3, 0, 399), 3);
        Due.order(x, "lapse 998", 400, 2);
        due("of like DAYS the greatest number", x.why(3, 0, 400), 200);
        Due.order(x, "lapse 997", 399, 3);
        due("of unlike DAYS the greatest DAY", x.why(3, 0, 400), 200);
        due("one DAY ahead", x.why(3, 0, 399), 300);
        for (int i = 4; i < 9; i++) {
            Due.order(x, "least " + i, i, i);
        }
        Due.order(x, "rank 1 n>0;rank 2 n>0;rank 3 n>0;rank 4 n>0;rank 5 n>0;rank 6 n>0;rank 7 n>0;rank 8 n>0", 400, 9);
        due("the tenth ORDER, its eighth CLAUSE", x.why(0, 0, 400), 907);
        due("the tenth ORDER, its eighth CLAUSE", x.force(0, 0, 400), 8);
        due("the ninth", x.why(4, 0, 400), 800);
    }

    private static void longestOrder() {
        String e = "n>0&n>0&n>0&n>0&n>0&n>0&n>0&n>0&n>0&n>0&n>0&n>0&n>0&n>0&n>0&n>0&n>0&n>0&n>0&n>0&n>0&n>0&n>0&n>0&n>0&n>0&n>0&n>1";
        x = new HotSprings();
        x.taker(0, 0, 1, 0, 0);
        x.taker(0, 0, 2, 0, 0);
        due("its bytes", ("rank 22 " + e).length(), 119);
        Due.order(x, "rank 222 " + e, 0, 0);
        due("does not hold", x.why(0, 0, 0), -5);
        due("holds", x.force(0, 1, 0), 222);
        Due.order(x, "rank 33 " + e.replace('&', '|'), 0, 1);
        due("holds", x.force(0, 0, 0), 33);
        x = new HotSprings();
        x.taker(0, 0, 1, 0, 0);
        String ors = e.replace('&', '|').replace("n>0", "n>3");
        Due.order(x, "rank 222 " + ors, 0, 0);
        due("none of them holds", x.why(0, 0, 0), -5);
        Due.order(x, "rank 222 " + ors.substring(0, ors.length() - 1) + "0", 0, 1);
        due("the last alone holds", x.why(0, 0, 0), 100);
    }

    private static final String[] CUT_SHORT = {"", "r", "ran", "rank", "rank ", "rank 1", "rank 1 ", "rank 1 k", "rank 1 k=",
        "rank 1 (", "rank 1 (k=1", "rank 1 !", "rank 1 k=1&", "rank 1 k=1|", "d", "dee", "deep", "deep ", "a", "apar",
        "apart ", "l", "laps", "lapse ", "leas", "least ", "s", "shar", "share "};

    /** An ORDER of one CLAUSE and of so many bytes, 10 at least. */
    private static String orderOf(int size) {
        int more = (size - 10) % 4;
        String[] first = {"rank 1 n>0", "rank 11 n>0", "rank 111 n>0", "rank 111 n>10"};
        StringBuilder s = new StringBuilder(first[more]);
        while (s.length() < size) {
            s.append("&n>0");
        }
        return s.toString();
    }

    private static void endsTooEarly() {
        for (String part : CUT_SHORT) {
            x = new HotSprings();
            Due.order(x, "rank 1 k=1;deep 1", 0, 0);
            Due.order(x, part, 0, -10 - part.length());
            String first = orderOf(119 - part.length());
            due("its bytes", first.length() + 1 + part.length(), 120);
            Due.order(x, first + ";" + part, 0, -10 - 120);
            Due.order(x, orderOf(120), 0, 1);
        }
        // The bytes of the ORDER ahead would go on well, but they are gone.
        String word = "deep 123";
        for (int i = 0; i <= 5; i++) {
            x = new HotSprings();
            Due.order(x, word, 0, 0);
            Due.order(x, word.substring(0, i), 0, -10 - i);
            due("one ORDER", x.count(1), 1);
        }
    }

    private static void usesOfEach() {
        x = new HotSprings();
        toDay(200);
        for (int t = 0; t < 8; t++) {
            due("eight TAKERS", x.taker(0, 0, 1, 0, 0), t);
        }
        Due.order(x, "lapse 10", 0, 0);
        due("first of taker 1", x.used(1, 200), 1);
        for (int i = 0; i < 20; i++) {
            due("use of taker 0", x.used(0, 100 + i), i + 1);
            due("use of taker 7", x.used(7, 119 - i), i + 1);
        }
        due("its own", x.used(1, 100), 2);
        due("told", x.used(1, 100), -3);
        due("told", x.used(1, 200), -3);
        due("told of taker 7", x.used(7, 100), -3);
        due("full", x.used(7, 0), -4);
        due("its last use is 119", x.lapsed(0, 129), 0);
        due("its last use is 119", x.lapsed(0, 130), 1);
        due("not the use of taker 1", x.lapsed(0, 200), 1);
        due("its last use is 119", x.lapsed(7, 129), 0);
        due("its last use is 119", x.lapsed(7, 130), 1);
        due("since", x.lapsed(7, 10), 0);
        due("since", x.lapsed(7, 11), 1);
        due("a use of its own", x.lapsed(1, 110), 0);
        due("a use of its own", x.lapsed(1, 111), 1);
        due("a use of its own", x.lapsed(1, 210), 0);
        due("a use of its own", x.lapsed(1, 211), 1);
        due("without a use", x.lapsed(2, 10), 0);
        due("without a use", x.lapsed(2, 105), 1);
        Due.order(x, "lapse 400", 0, 1);
        due("as many as there are", x.lapsed(2, 400), 0);
        Due.order(x, "lapse 399", 0, 2);
        due("one more", x.lapsed(2, 400), 1);
        due("one less", x.lapsed(2, 399), 0);
    }

    private static void thirtySales() {
        x = new HotSprings();
        x.dawn(30);
        x.taker(0, 0, 1, 0, 0);
        x.taker(0, 0, 1, 0, 30);
        for (int i = 0; i < 30; i++) {
            due("a SALE", x.sell(i % 2, i / 2 % 10, (i / 2 + 1) % 10, 30 - i / 2 * 2), i + 1);
        }
        // By DAYS the last told come first: the eleventh of each sells from OWNER 0, the second from OWNER 1.
        due("ahead of the eleventh", x.whose(0, 9, -1), 0);
        due("the eleventh", x.whose(0, 10, -1), 1);
        due("ahead of the second", x.whose(0, 27, -1), 1);
        due("the second", x.whose(0, 28, -1), 2);
        due("by all thirty", x.whose(1, 400, 30), 2);
        due("by four: the first two of each", x.whose(1, 400, 4), 1);
        due("by none", x.whose(1, 400, 0), 0);
        x = new HotSprings();
        x.dawn(1);
        x.taker(0, 0, 1, 0, 0);
        for (int i = 0; i < 30; i++) {
            due("a SALE ahead of since", x.sell(0, i % 10, (i + 1) % 10, 0), i + 1);
        }
        for (int e = 0; e <= 30; e++) {
            due("by the first " + e, x.whose(0, 0, e), e % 10);
        }
        due("by all", x.whose(0, 0, -1), 0);
    }

    private static void eightTakers() {
        x = new HotSprings();
        for (int t = 0; t < 8; t++) {
            x.taker(0, 0, 1, 0, 0);
        }
        for (int t = 0; t < 8; t++) {
            due("like ones by number", x.row(0, t), t);
            due("its place", x.of(t, 2), t);
        }
        Due.order(x, "share 1", 0, 0);
        for (int t = 0; t < 8; t++) {
            due("7 by gallons", x.want(7, t), t < 7 ? 1 : 0);
            due("8 by gallons", x.want(8, t), 1);
            due("15 by gallons", x.want(15, t), t < 7 ? 2 : 1);
            due("999 by gallons", x.want(999, t), t < 7 ? 125 : 124);
            due("0 by gallons", x.want(0, t), 0);
        }
        Due.order(x, "share 2", 0, 1);
        for (int t = 0; t < 8; t++) {
            due("7 alike", x.want(7, t), t < 7 ? 1 : 0);
            due("8 alike", x.want(8, t), 1);
            due("9 alike", x.want(9, t), 1);
            due("999 alike", x.want(999, t), 1);
            due("0 alike", x.want(0, t), 0);
        }
        x = new HotSprings();
        for (int t = 0; t < 8; t++) {
            x.taker(0, 0, 4, 0, 0);
        }
        for (int t = 0; t < 8; t++) {
            due("31 by rank", x.want(31, t), t < 7 ? 4 : 3);
            due("32 by rank", x.want(32, t), 4);
            due("999 by rank", x.want(999, t), 4);
            due("0 by rank", x.want(0, t), 0);
        }
        Due.order(x, "share 2", 0, 0);
        for (int t = 0; t < 8; t++) {
            due("31 alike", x.want(31, t), t < 7 ? 4 : 3);
            due("32 alike", x.want(32, t), 4);
            due("999 alike", x.want(999, t), 4);
        }
    }

    /** 8 TAKERS of so many gallons, served from four TAPS of so much. */
    private static void served(String why, int comes, int gallons, int bits) {
        x = new HotSprings();
        for (int c = 0; c < 5; c++) {
            x.under(5 * c, 0, 300);
            x.under(5 * c, 1, comes);
            x.tap(1, 5 * c, 500, 1);
        }
        for (int t = 0; t < 8; t++) {
            x.taker(0, 0, gallons, 300, 0);
        }
        x.dawn(1);
        due(why, x.mix(0), bits);
    }

    private static void mixes() {
        served("24 tens for 24", 60, 3, 255);
        served("24 tens for six of eight", 60, 4, 63);
        served("no more than 24 tens", 500, 4, 63);
        served("69 are 6 tens", 69, 3, 255);
        served("59 are 5 tens", 59, 3, 63);
        served("9 are none", 9, 1, 0);
        served("10 are one", 10, 1, 15);
        served("nothing", 0, 1, 0);
        x = new HotSprings();
        x.under(0, 0, 300);
        x.under(0, 1, 30);
        x.under(5, 0, 500);
        x.under(5, 1, 30);
        x.tap(1, 0, 500, 1);
        x.tap(1, 5, 500, 1);
        x.taker(0, 0, 2, 100, 0);
        x.taker(0, 0, 1, 300, 0);
        x.taker(0, 0, 3, 500, 0);
        x.dawn(1);
        due("those ahead leave the hot tens", x.mix(0), 7);
        x = new HotSprings();
        for (int c = 0; c < 4; c++) {
            x.under(5 * c, 0, c < 3 ? 800 : 0);
            x.under(5 * c, 1, 20);
            x.tap(1, 5 * c, 500, 1);
        }
        x.taker(0, 0, 1, 801, 0);
        x.taker(0, 0, 2, 801, 0);
        x.taker(0, 0, 1, 800, 0);
        x.dawn(1);
        due("n tens and no more, none of them given back", x.mix(0), 4);
    }

    private static void sixtyLooks() {
        x = new HotSprings();
        x.under(0, 0, 1000);
        x.under(0, 1, 100);
        x.tap(1, 0, 100, 1);
        x.tap(0, 29, 0, 0);
        x.dawn(1);
        for (int i = 0; i < 59; i++) {
            due("a LOOK", x.look(0, 0, i % 2 == 0 ? 9999 : 0, i % 3 == 0 ? 2000 : 0), i + 1);
        }
        due("the last", x.look(1, 0, 0, 1), 60);
        due("all are OFF", x.off(0), 59);
        due("of the other", x.off(1), 1);
        Due.order(x, "least 1", 0, 0);
        due("1 is not farther than 1", x.off(1), 0);
        Due.order(x, "least 999", 0, 1);
        due("HEAT 1000 off, or 9899 gallons", x.off(0), 59);
    }

    private static void allEightExplain() {
        x = new HotSprings();
        x.tap(0, 29, 0, 0);
        for (int c = 0; c < 8; c++) {
            x.tap(c % 2 + 1, c, 100, 1);
        }
        x.drop(0, 105);
        // 100 by 10 and 9, 8 and so on, and 1 more of distance, each cut: 10, 11, 12, 14, 16, 20, 11, 12.
        due("no set of seven", x.cause(0, 0), -5);
        x.drop(0, 106);
        due("all eight", x.cause(0, 0), 255);
        due("all eight", x.cause(0, 1), 1);
        due("the farthest may be missing", x.cause(10, 0), 254);
        for (int c = 8; c < 11; c++) {
            due("more TAPS", x.tap(0, c, 0, 0), c + 1);
        }
        due("twelve TAPS", x.cause(0, 0), 255);
        x = new HotSprings();
        for (int tap = 0; tap < 12; tap++) {
            x.tap(tap < 11 ? 0 : 1, tap, 40, 1);
        }
        x.drop(9, 13);
        due("the twelfth TAP is the first BORE", x.cause(0, 0), 1);
        x.drop(11, 0);
        due("but for itself", x.cause(0, 0), 1);
        x.drop(11, 1);
        due("but for itself", x.cause(0, 0), -5);
        due("by d 1", x.cause(1, 0), 1);
    }

    /** A BORE that gave DAYS of SCALE already is looked at on a later DAY. */
    private static void foretold(int days, int today, int n, int want) {
        x = new HotSprings();
        all(0, 500);
        all(1, 9999);
        all(3, 999);
        toDay(today - days);
        x.tap(0, 0, 0, 0);
        x.tap(1, 14, 20, 1);
        x.shut(0, true);
        if (days > 0) {
            x.dawn(days);
        }
        due("tire(1, " + n + ") on DAY " + today + " with SCALE " + days, x.tire(1, n), want);
    }

    private static void foretolds() {
        foretold(0, 0, 20, 10);
        foretold(0, 0, 21, 0);
        foretold(0, 0, 9999, 0);
        foretold(0, 0, 1, -5);
        foretold(0, 0, 16, 50);
        foretold(0, 0, 15, -5);
        foretold(1, 1, 15, 60);
        foretold(2, 2, 15, 60);
        foretold(1, 1, 14, -5);
        foretold(10, 10, 20, 10);
        foretold(10, 10, 15, 60);
        foretold(11, 340, 14, 399);
        foretold(10, 340, 14, -5);
        foretold(1, 390, 20, 399);
        foretold(0, 390, 20, -5);
        foretold(9, 399, 20, -5);
        foretold(10, 399, 20, 399);
        foretold(0, 399, 21, 399);
        foretold(0, 400, 9999, -5);
    }

    private static void sixPushes() {
        x = new HotSprings();
        for (int i = 0; i < 6; i++) {
            x.push(14, 1 << i);
        }
        x.shake(14, 63);
        due("all six", x.shift(0), 63);
        due("all six", x.shift(1), 1);
        x.shake(14, 64);
        due("not all six", x.shift(0), -5);
        x.shake(14, 0);
        due("none of them", x.shift(0), 0);
        x.shake(14, 32);
        due("the last", x.shift(0), 32);
        int[] two = {2, 12, 16, 26, 7, 9, 19, 21};
        for (int i = 0; i < two.length; i++) {
            x.shake(two[i], 16);
            due("half at distance 2, CELL " + two[i], x.shift(0), 32);
            x.shake(two[i], 0);
            due("half at distance 2, CELL " + two[i], x.shift(0), -5);
            x.shake(two[i], 16);
            if (i % 4 == 3) {
                x = new HotSprings();
                for (int p = 0; p < 6; p++) {
                    x.push(14, 1 << p);
                }
                x.shake(14, 32);
            }
        }
        x.shake(13, 32);
        x.shake(8, 32);
        x.shake(17, 0);
        x.shake(1, 0);
        due("nothing at distance 3", x.shift(0), 32);
        due("six CELLS", x.shake(27, 0), 6);
        due("nothing at distance 3", x.shift(0), 32);
        x.shake(27, 8);
        due("the sixth CELL", x.shift(0), -5);
    }

    private static void mostShaken() {
        x = new HotSprings();
        x.push(0, 99);
        x.push(29, -99);
        x.shake(0, 99);
        x.shake(29, -99);
        due("most and least", x.shift(0), 3);
        x.shake(2, 49);
        x.shake(27, -49);
        due("halves cut", x.shift(0), 3);
        x.shake(27, -50);
        due("halves cut", x.shift(0), -5);
        x = new HotSprings();
        x.push(0, 1);
        x.push(0, -1);
        x.shake(2, 0);
        due("half of 1", x.shift(0), 0);
        x.shake(0, 1);
        due("half of 1 is none", x.shift(0), 1);
        x.shake(0, -1);
        due("half of -1 is none", x.shift(0), 2);
        x.shake(0, 999);
        due("more than all pushes", x.shift(1), -5);
        x.shake(0, -999);
        due("less than all pushes", x.shift(1), -5);
    }

    /** The corner alone where a BORE is as far away as can be. */
    private static void corner(int cell, int other) {
        x = new HotSprings();
        x.tap(0, cell, 0, 0);
        Due.order(x, "apart 9", 0, 0);
        due("the other corner", x.place(1), other);
        Due.order(x, "apart 10", 0, 1);
        due("nowhere", x.place(1), -5);
    }

    private static HotSprings placed(int cell, int n) {
        HotSprings y = new HotSprings();
        for (int c = 0; c < 30; c++) {
            y.under(c, 1, 37 * c % 230);
            y.under(c, 3, c % 3 * 5);
        }
        y.tap(1, 0, 90, 1);
        y.tap(0, 29, 0, 0);
        y.tap(2, 8, 80, 1);
        y.tap(1, 15, 120, 1);
        y.tap(1, 26, 110, 1);
        y.dawn(1);
        if (cell >= 0) {
            y.tap(1, cell, n, 1);
        }
        return y;
    }

    /** PLACE, found by making the BORE in each CELL and letting 5 DAYS go by. */
    private static int placeByDays(int n) {
        int best = -5;
        int most = -1;
        for (int c = 0; c < 30; c++) {
            HotSprings y = placed(c, n);
            y.dawn(5);
            int sum = 0;
            for (int tap = 0; tap < 5; tap++) {
                for (int day = 1; day < 6; day++) {
                    sum += y.flow(tap, day, 0);
                }
            }
            if (y.count(0) == 6 && sum > most) {
                most = sum;
                best = c;
            }
        }
        return best;
    }

    private static void places() {
        corner(0, 29);
        corner(5, 24);
        corner(24, 5);
        corner(29, 0);
        for (int n = 1; n <= 500; n += n < 60 ? 7 : 73) {
            x = placed(-1, 0);
            due("place(" + n + ")", x.place(n), placeByDays(n));
        }
        x = new HotSprings();
        for (int c = 0; c < 11; c++) {
            x.tap(0, 2 * c, 0, 0);
        }
        due("11 TAPS", x.place(500), 1);
        due("the least n", x.place(1), 1);
        toDay(395);
        due("5 DAYS are left", x.place(1), 1);
        x.tap(0, 1, 0, 0);
        due("12 TAPS", x.place(1), -3);
    }

    private static void triedBesideTen() {
        x = new HotSprings();
        x.taker(0, 0, 1, 0, 0);
        x.taker(1, 0, 1, 0, 0);
        for (int i = 0; i < 10; i++) {
            Due.order(x, "rank 5 k=0", 0, i);
        }
        Due.tape(x, "rank 4 k=1");
        due("an eleventh is tried", x.tried(0, -9), 1);
        due("ten stay", x.count(1), 10);
        due("the first by the ten", x.row(0, 0), 0);
        Due.tape(x, "rank 6 k=1");
        due("an eleventh is tried", x.tried(0, 401), 0);
        Due.tape(x, "rank 4 k=1");
        due("what 1 of no DAY", x.tried(1, 0), -1);
        due("THE TAPE stays", x.count(6), 10);
        x.dawn(1);
        due("nobody is SERVED", x.tried(1, 0), 0);
        due("THE TAPE is empty", x.count(6), 0);
        Due.tape(x, "rank 4 k=1;");
        due("too early", x.tried(1, 0), -21);
        due("THE TAPE is empty", x.count(6), 0);
        x = new HotSprings();
        Due.tape(x, "oops");
        due("no TAKER, and a FAULT", x.tried(0, 0), -10);
        due("THE TAPE is empty", x.count(6), 0);
    }

    private static void images() {
        x = new HotSprings();
        due("of a new object", x.image(), 0);
        x.under(3, 0, 9);
        x.tap(0, 3, 0, 0);
        Due.order(x, "deep 1", 0, 0);
        Due.tape(x, "oops");
        x.dawn(3);
        due("undo", x.undo(), 0);
        cells("cold again", 0, 3, 0);
        for (int what = 0; what < 9; what++) {
            due("nothing of " + what, x.count(what), 0);
        }
        due("no ORDER", x.force(1, 0, 0), 99);
        due("the ORDER is numbered anew", orderAnew(), 0);
        due("undo a second time", x.undo(), 0);
        due("no ORDER again", x.count(1), 0);
        due("a later image", laterImage(), 2);
        due("in place of the first", x.undo(), 2);
    }

    private static int orderAnew() {
        Due.tape(x, "deep 5");
        return x.text(400);
    }

    private static int laterImage() {
        x.dawn(2);
        int today = x.image();
        x.dawn(30);
        return today;
    }

    public static void main(String[] args) {
        under();
        besideBySides();
        differences();
        atMostAheadOfAll();
        taps();
        depths();
        shutEach();
        lastDays();
        feeds();
        orders();
        longestOrder();
        endsTooEarly();
        usesOfEach();
        thirtySales();
        eightTakers();
        mixes();
        sixtyLooks();
        allEightExplain();
        foretolds();
        sixPushes();
        mostShaken();
        places();
        triedBesideTen();
        images();
        Due.end("EdgesTest");
    }
}
