/** Promises 10 to 13: THE TAPE, ORDERS and what rules. */
public final class OrdersTest {
    private static HotSprings x;

    private static void due(String call, long got, long want) {
        Due.due(call, got, want);
    }

    private static void promise10() {
        x = new HotSprings();
        due("no bytes", x.feed(0, 0), -2);
        due("no bytes", x.feed(0, -1), -2);
        due("too many bytes", x.feed(0, 9), -2);
        due("nothing came", x.count(6), 0);
        due("the lowest, the highest of these first", x.feed(Due.word("xxxdeep "), 5), 5);
        due("the lowest", x.feed(Due.word("1234567;"), 2), 7);
        due("one", x.feed(-1L << 8 | 'd', 1), 8);
        due("behind", x.feed(Due.word("eep 12"), 6), 14);
        due("an order", x.text(0), 0);
        due("it is so", x.force(1, 0, 0), 12);
        due("the clause", x.why(1, 0, 0), 1);
        due("empty", x.count(6), 0);
        for (int i = 1; i <= 14; i++) {
            due("eight more", x.feed(0, 8), 8 * i);
        }
        due("113", x.feed(0, 1), 113);
        due("beyond 120", x.feed(0, 8), -4);
        due("bad ahead of full", x.feed(0, 9), -2);
        due("stays", x.count(6), 113);
        due("120", x.feed(0, 7), 120);
        due("full", x.feed(0, 1), -4);
        due("first byte", x.text(0), -10);
    }

    /** -1: the text is an ORDER. */
    private static void fault(String text, int place) {
        x = new HotSprings();
        Due.order(x, text, 0, place < 0 ? 0 : -10 - place);
        due("behind it THE TAPE is empty", x.count(6), 0);
        due("orders behind " + text, x.count(1), place < 0 ? 1 : 0);
    }

    private static void words() {
        String[] words = {"deep", "apart", "lapse", "least"};
        for (String w : words) {
            fault(w + " 0", -1);
            fault(w + " 9", -1);
            fault(w + " 10", -1);
            fault(w + " 999", -1);
            fault(w + " 1000", w.length() + 4);
            fault(w + " 01", w.length() + 2);
            fault(w + " 00", w.length() + 2);
            fault(w + "  1", w.length() + 1);
            fault(w + "1", w.length());
            fault(w + " ", w.length() + 1);
            fault(w + " -1", w.length() + 1);
            fault(w + " 1 ", w.length() + 2);
            for (int i = 0; i <= w.length(); i++) {
                fault(w.substring(0, i), i);
                fault(w.substring(0, i) + "#", i);
            }
        }
        fault("", 0);
        fault(" deep 1", 0);
        fault("rook", 1);
        fault("lexst 1", 2);
        fault("leapse 1", 3);
        fault("laast 1", 2);
        fault("depth 1", 2);
        fault("DEEP 1", 0);
        fault("share 0", -1);
        fault("share 2", -1);
        fault("share 3", 6);
        fault("share 00", 7);
        fault("share 12", 7);
        fault("share ", 6);
        fault("deep 1" + (char) 187, 6);
        fault((char) 228 + "eep 1", 0);
        fault("deep " + (char) 0, 5);
    }

    private static void clauses() {
        String eight = "deep 1;deep 2;deep 3;deep 4;deep 5;deep 6;deep 7;deep 8";
        fault(eight, -1);
        fault(eight + ";deep 9", eight.length());
        fault(eight + ";", eight.length());
        fault("deep 1;", 7);
        fault("deep 1;;", 7);
        fault("deep 1; deep 2", 7);
        fault("deep 1 ;deep 2", 6);
        fault("deep 1;share 1;apart 3;rank 0 k=0;lapse 4;least 5", -1);
        fault("deep 1,deep 2", 6);
    }

    private static void wholeTape() {
        StringBuilder e = new StringBuilder("rank 1 ");
        for (int i = 0; i < 27; i++) {
            e.append(i % 3 == 0 ? "k=1&" : "n<2|");
        }
        fault(e + "!!k=1", -1);
        fault(e + "k=1|!", 120);
        fault(e + "(k=1|", 120);
    }

    private static void conditions() {
        fault("rank 1", 6);
        fault("rank 1 ", 7);
        fault("rank 12 k=1", -1);
        fault("rank 1234 k=1", 8);
        fault("rank 01 k=1", 6);
        fault("rank k=1", 5);
        fault("rank 1  k=1", 7);
        fault("rank 1;", 6);
        String[] tests = {"k=1", "t=12", "n<2", "n>0", "s<400", "s>0", "h<999", "h>10"};
        for (String t : tests) {
            fault("rank 7 " + t, -1);
            fault("rank 7 (" + t + ")", -1);
            fault("rank 7 !" + t, -1);
            fault("rank 7 " + t + "&" + t + "|" + t, -1);
            fault("rank 7 " + t + ";deep 1", -1);
            fault("rank 7 " + t + ")", 7 + t.length());
            fault("rank 7 (" + t, 8 + t.length());
            fault("rank 7 (" + t + ";", 8 + t.length());
            fault("rank 7 " + t + "&", 8 + t.length());
            fault("rank 7 " + t + "||k=1", 8 + t.length());
            fault("rank 7 " + t + " ", 7 + t.length());
            fault("rank 7 " + t.charAt(0), 8);
            fault("rank 7 " + t.charAt(0) + "#", 8);
            fault("rank 7 " + t.substring(0, 2), 9);
            fault("rank 7 " + t.substring(0, 2) + "x", 9);
            fault("rank 7 " + t.substring(0, 2) + "00", 10);
            fault("rank 7 " + t.substring(0, 2) + "1234", 12);
        }
        fault("rank 7 k<1", 8);
        fault("rank 7 t>1", 8);
        fault("rank 7 n=1", 8);
        fault("rank 7 s=1", 8);
        fault("rank 7 h=1", 8);
        fault("rank 7 x=1", 7);
        fault("rank 7 ()", 8);
        fault("rank 7 !", 8);
        fault("rank 7 k=1!k=2", 10);
        fault("rank 7 k=1(k=2)", 10);
        fault("rank 7 (k=1)k=2", 12);
        fault("deep 7 k=1", 6);
        fault("share 1 k=1", 7);
    }

    private static void opens() {
        fault("rank 7 !!!!!k=1", -1);
        fault("rank 7 !!!!!!k=1", 12);
        fault("rank 7 (((((k=1)))))", -1);
        fault("rank 7 ((((((k=1))))))", 12);
        fault("rank 7 !(!(!k=1))", -1);
        fault("rank 7 !(!(!(k=1)))", 12);
        fault("rank 7 !!!!!k=1&!!!!!k=1|!!!!!k=1", -1);
        fault("rank 7 (!!!!k=1&!!!!!k=1)", 20);
        fault("rank 7 (((((k=1)|k=2)&(k=3))))", -1);
        fault("rank 7 (((((k=1)|k=2)&((k=3)))))", -1);
        fault("rank 7 (((((k=1)|k=2)&(((k=3))))))", 24);
        fault("rank 7 (((((k=1))|(k=2)))&!!!!k=1)", -1);
        fault("rank 7 (((((k=1))|(k=2)))&!!!!(k=1)", 30);
        fault("rank 7 (k=1))", 12);
    }

    private static void afterFaults() {
        x = new HotSprings();
        x.taker(0, 0, 1, 0, 0);
        for (int i = 0; i < 9; i++) {
            Due.order(x, "rank 1 n<2&n<2&n<2|n<2&n<2&n<2|n<2&n<2|n<2&n<2&n<2|n<2;x", 0, -10 - 55);
        }
        Due.order(x, "rank 4 k=0&n<2;rank 5 k=0&n>1", 0, 0);
        due("nothing is left of what was no ORDER", x.force(0, 0, 0), 4);
    }

    private static void promise11() {
        words();
        clauses();
        wholeTape();
        conditions();
        opens();
        afterFaults();
        x = new HotSprings();
        Due.tape(x, "deep 1");
        due("day", x.text(-1), -2);
        due("day", x.text(401), -2);
        due("THE TAPE stays", x.count(6), 6);
        due("the last day", x.text(400), 0);
        Due.order(x, "deep", 0, -14);
        Due.order(x, "deep 3", 0, 1);
        for (int i = 2; i < 10; i++) {
            Due.order(x, "deep 3", 400 - i, i);
        }
        Due.tape(x, "oops");
        due("bad ahead of full", x.text(401), -2);
        due("full", x.text(0), -4);
        due("THE TAPE stays", x.count(6), 4);
        due("ten", x.count(1), 10);
    }

    private static void force(int word, int taker, int day, int n, int clause) {
        due("force(" + word + ", " + taker + ", " + day + ")", x.force(word, taker, day), n);
        due("why(" + word + ", " + taker + ", " + day + ")", x.why(word, taker, day), clause);
    }

    private static void without() {
        x = new HotSprings();
        x.taker(0, 0, 1, 0, 0);
        int[] n = {100, 99, 1, 99, 0, 0};
        for (int word = 0; word < 6; word++) {
            force(word, 0, 0, n[word], -5);
            force(word, 0, 400, n[word], -5);
            due("no day", x.force(word, 0, -1), -2);
            due("no day", x.force(word, 0, 401), -2);
            due("no day", x.why(word, 0, -1), -2);
            due("no day", x.why(word, 0, 401), -2);
            int none = word == 0 ? -1 : n[word];
            due("the taker", x.force(word, 1, 0), none);
            due("the taker", x.force(word, -1, 0), none);
            due("the taker", x.why(word, 1, 0), word == 0 ? -1 : -5);
            due("the taker ahead of the day", x.force(word, 1, 401), word == 0 ? -1 : -2);
            due("the taker ahead of the day", x.why(word, 1, 401), word == 0 ? -1 : -2);
        }
        due("no word", x.force(-1, 0, 0), -1);
        due("no word", x.force(6, 0, 401), -1);
        due("no word", x.why(-1, 0, 401), -1);
        due("no word", x.why(6, 0, 0), -1);
    }

    private static void days() {
        x = new HotSprings();
        Due.order(x, "deep 10;share 1;deep 11", 5, 0);
        Due.order(x, "deep 20;apart 2;lapse 7;least 6", 3, 1);
        Due.order(x, "deep 30", 5, 2);
        Due.order(x, "least 40", 9, 3);
        force(1, 0, 2, 99, -5);
        force(1, 0, 3, 20, 100);
        force(1, 0, 4, 20, 100);
        force(1, 0, 5, 30, 200);
        force(1, 0, 400, 30, 200);
        force(2, 0, 5, 2, 101);
        force(3, 0, 5, 7, 102);
        force(4, 0, 8, 6, 103);
        force(4, 0, 9, 40, 300);
        force(5, 0, 4, 0, -5);
        force(5, 0, 5, 1, 1);
        x = new HotSprings();
        Due.order(x, "deep 10;share 1;deep 11", 5, 0);
        force(1, 0, 5, 11, 2);
    }

    /** A rank 7 CLAUSE with this E rules over the TAKERS of these bits, of five unlike ones. */
    private static void holds(String e, int bits) {
        x = new HotSprings();
        x.dawn(10);
        x.taker(0, 3, 1, 300, 0);
        x.taker(1, 3, 2, 310, 4);
        x.taker(2, 0, 3, 20, 5);
        x.taker(3, 11, 4, 999, 6);
        x.taker(5, 4, 1, 1500, 10);
        Due.order(x, "rank 7 " + e, 0, 0);
        int so = 0;
        for (int t = 0; t < 5; t++) {
            so |= x.force(0, t, 0) == 7 ? 1 << t : 0;
            due("why of taker " + t + " by " + e, x.why(0, t, 0), (bits >> t & 1) == 1 ? 0 : -5);
        }
        due("for whom " + e, so, bits);
    }

    private static void ranks() {
        holds("k=0", 1);
        holds("k=2", 4);
        holds("k=4", 0);
        holds("k=5", 16);
        holds("t=3", 3);
        holds("t=11", 8);
        holds("n<2", 17);
        holds("n>2", 12);
        holds("s<4", 1);
        holds("s>4", 28);
        holds("h<300", 4);
        holds("h>309", 26);
        holds("h>310", 24);
        holds("h>999", 16);
        holds("!k=0", 30);
        holds("!!k=0", 1);
        holds("k=0|k=1", 3);
        holds("t=3&k=1", 2);
        holds("k=0|t=3&k=1", 3);
        holds("k=2|t=3&k=1|k=5", 22);
        holds("t=3&k=1|k=2", 6);
        holds("(k=0|t=3)&k=1", 2);
        holds("!k=0&t=3", 2);
        holds("!(k=0&t=3)", 30);
        holds("!(k=0|t=3)", 28);
        holds("!k=0|t=3", 31);
        holds("k=0&(k=1|(k=2|(k=0&!(t=1|h>300))))", 1);
        holds("t=3&t=3&k=1", 2);
        holds("k=0|k=1&k=0|k=2", 5);
    }

    private static void rankByOrders() {
        x = new HotSprings();
        x.taker(1, 0, 1, 0, 0);
        x.taker(2, 0, 2, 0, 0);
        x.taker(3, 0, 3, 0, 0);
        Due.order(x, "rank 5 n<9;rank 6 n<3;rank 4 n<2", 0, 0);
        Due.order(x, "deep 1;rank 9 k=1;rank 8 k=1&n>1", 0, 1);
        Due.order(x, "rank 3 k=3", 2, 2);
        force(0, 0, 0, 9, 101);
        force(0, 1, 0, 6, 1);
        force(0, 2, 0, 5, 0);
        force(0, 0, 2, 9, 101);
        force(0, 2, 1, 5, 0);
        force(0, 2, 2, 3, 200);
    }

    public static void main(String[] args) {
        promise10();
        promise11();
        without();
        days();
        ranks();
        rankByOrders();
        Due.end("OrdersTest");
    }
}
