/** Promises 34 to 36: THE IMAGE, undo, count. */
public final class ImageTest {
    private static HotSprings x;

    private static void due(String call, long got, long want) {
        Due.due(call, got, want);
    }

    private static void fill() {
        x.under(0, 0, 800);
        x.under(0, 1, 1000);
        x.under(0, 2, 20);
        x.under(0, 3, 100);
        x.tap(0, 0, 0, 0);
        x.tap(1, 2, 30, 1);
        x.pipe(0, 7);
        x.shut(1, true);
        x.taker(1, 0, 2, 100, 0);
        x.taker(2, 0, 1, 100, 0);
        x.dawn(4);
        Due.order(x, "rank 5 k=2;deep 9", 0, 0);
        x.sell(0, 0, 3, 2);
        x.used(0, 3);
        x.look(0, 1, 0, 0);
        x.drop(0, 10);
        x.push(0, 6);
        x.shake(1, 6);
        Due.tape(x, "deep 1");
    }

    private static void change(int i) {
        switch (i) {
            case 0: x.under(7, 0, 5); break;
            case 1: x.under(7, 1, 5); break;
            case 2: x.under(7, 2, 5); break;
            case 3: x.under(7, 3, 5); break;
            case 4: x.tap(0, 9, 0, 0); break;
            case 5: x.dawn(2); break;
            case 6: x.shut(0, true); break;
            case 7: x.scale(0); x.dawn(1); break;
            case 8: x.pipe(0, 90); x.dawn(1); break;
            case 9: x.feed(';', 1); break;
            case 10: x.text(0); break;
            case 11: x.taker(5, 0, 1, 1, 1); break;
            case 12: x.sell(1, 0, 4, 1); break;
            case 13: x.used(0, 4); x.used(1, 2); break;
            case 14: x.look(0, 2, 9, 9); break;
            case 15: x.drop(1, 9); break;
            case 16: x.drop(0, 9); break;
            case 17: x.shake(2, 9); break;
            case 18: x.shake(1, 9); break;
            case 19: x.push(5, 9); break;
            case 20: x.feed(Due.word(";rank 1 "), 8); x.feed(Due.word("k=1"), 3); x.text(3); break;
            default: x.tried(0, 0); break;
        }
    }

    private static void promise34And35() {
        x = new HotSprings();
        due("no image", x.undo(), -3);
        fill();
        due("no image", x.undo(), -3);
        due("image", x.image(), 4);
        long was = Told.by(x);
        due("undo of nothing", x.undo(), 4);
        due("as it was", Told.by(x), was);
        for (int i = 0; i <= 21; i++) {
            // An object is good for 512 calls alone, and Told makes many.
            x = new HotSprings();
            fill();
            x.image();
            change(i);
            due("undo of change " + i, x.undo(), 4);
            due("as ever, change " + i, Told.by(x), was);
        }
        x = new HotSprings();
        fill();
        x.image();
        for (int i = 0; i <= 21; i++) {
            change(i);
        }
        due("undo of all", x.undo(), 4);
        due("THE TAPE", x.count(6), 6);
        due("THE IMAGE is still there", x.undo(), 4);
        due("THE TAPE is as fed", x.text(0), 1);
        due("it is so", x.force(1, 0, 0), 1);
        due("SCALE: 820, 636 and 524 were hot enough", x.scale(0), 4);
        due("a change is in place of one", x.shake(1, 1), 1);
        due("another", x.shake(2, 1), 2);
        due("a drop is in place of one", x.drop(0, 1), 1);
        due("a push", x.push(0, 1), 2);
        due("a use", x.used(0, 4), 2);
        due("the other's", x.used(1, 4), 1);
        due("shut", x.shut(1, true), 1);
        due("not shut", x.shut(0, true), 0);
        due("pipe", x.pipe(0, 1), 7);
    }

    private static void daysAgain() {
        x = new HotSprings();
        x.under(0, 1, 1000);
        x.tap(0, 0, 0, 0);
        x.dawn(2);
        x.image();
        x.tap(0, 29, 0, 0);
        x.dawn(3);
        int gave = x.flow(0, 2, 0);
        x.undo();
        due("a day that did not go by", x.flow(0, 2, 0), -1);
        due("a TAP that is not there", x.flow(1, 2, 0), -1);
        due("went by", x.flow(0, 0, 0), 100);
        x.under(0, 1, 9000);
        x.dawn(1);
        due("another day", x.flow(0, 2, 0), 900);
        due("that day again", gave < 900 ? 1 : 0, 1);
        due("made again", x.tap(0, 5, 0, 0), 1);
        x.dawn(1);
        due("ahead of the TAP", x.flow(1, 2, 0), -1);
        due("with the TAP", x.flow(1, 3, 0), 0);
        due("another image", x.image(), 4);
        x.dawn(1);
        due("the later one", x.undo(), 4);
        due("two TAPS", x.count(0), 2);
    }

    private static void madeAgain() {
        x = new HotSprings();
        x.under(0, 0, 900);
        x.under(0, 1, 100);
        x.image();
        x.tap(1, 0, 30, 1);
        x.pipe(0, 50);
        x.shut(0, true);
        x.taker(0, 0, 1, 0, 0);
        x.used(0, 0);
        x.drop(0, 5);
        x.dawn(1);
        x.shut(0, false);
        x.dawn(1);
        due("served", x.mix(1), 1);
        x.undo();
        due("made again", x.tap(1, 0, 30, 1), 0);
        due("a new PIPE", x.pipe(0, 0), 0);
        due("a new SCALE", x.scale(0), 0);
        due("not shut", x.shut(0, false), 0);
        due("made again", x.taker(0, 0, 1, 0, 0), 0);
        due("not USED", x.used(0, 0), 1);
        due("its first drop", x.drop(0, 6), 1);
        x.undo();
        x.taker(0, 0, 1, 0, 0);
        x.dawn(2);
        x.tap(1, 0, 30, 1);
        due("a TAP that was not there then", x.mix(1), 0);
        due("a TAP that was not there then", x.flow(0, 1, 0), -1);
    }

    private static void promise36() {
        x = new HotSprings();
        fill();
        int[] want = {2, 1, 2, 1, 1, 4, 6, 1};
        for (int i = 0; i < want.length; i++) {
            due("count(" + i + ")", x.count(i), want[i]);
        }
        int water = 0;
        for (int c = 0; c < 30; c++) {
            water += x.cell(c, 1);
        }
        due("water", x.count(8), water);
        due("what", x.count(-1), -1);
        due("what", x.count(9), -1);
        due("what", x.count(Integer.MAX_VALUE), -1);
    }

    public static void main(String[] args) {
        promise34And35();
        daysAgain();
        madeAgain();
        promise36();
        Due.end("ImageTest");
    }
}
