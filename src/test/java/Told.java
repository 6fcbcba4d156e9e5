/** What an object answers of all that it holds, mixed into one number. */
final class Told {
    private Told() { }

    /** By calls that change nothing. */
    static long by(HotSprings x) {
        long sum = 0;
        for (int i = 0; i <= 9; i++) {
            sum = sum * 31 + x.count(i);
        }
        for (int c = 0; c < 30; c++) {
            for (int what = 0; what < 4; what++) {
                sum = sum * 31 + x.cell(c, what);
            }
        }
        for (int tap = 0; tap < 12; tap++) {
            for (int day = 0; day < 20; day++) {
                for (int what = 0; what < 4; what++) {
                    sum = sum * 31 + x.flow(tap, day, what);
                }
            }
            sum = sum * 31 + x.off(tap);
            sum = sum * 31 + x.tire(tap, 60);
        }
        for (int word = 1; word < 6; word++) {
            sum = sum * 31 + x.force(word, 0, 20);
        }
        for (int what = 0; what < 2; what++) {
            sum = sum * 31 + x.shift(what);
            sum = sum * 31 + x.cause(0, what);
        }
        return takers(x, sum);
    }

    private static long takers(HotSprings x, long first) {
        long sum = first;
        for (int t = 0; t < 8; t++) {
            for (int what = 0; what < 3; what++) {
                sum = sum * 31 + x.of(t, what);
            }
            sum = sum * 31 + x.want(17, t);
            for (int day = 0; day < 20; day++) {
                sum = sum * 31 + x.why(0, t, day);
                sum = sum * 31 + x.whose(t, day, -1);
                sum = sum * 31 + x.lapsed(t, 90 + day);
            }
        }
        return sum;
    }

    /** By calls that change much: what lies behind the other answers, THE TAPE and THE IMAGE comes out too. */
    static long byAll(HotSprings x) {
        long sum = by(x);
        sum = sum * 31 + x.tried(0, 0);
        for (int tap = 0; tap < 12; tap++) {
            sum = sum * 31 + x.pipe(tap, 3);
            sum = sum * 31 + x.scale(tap);
            sum = sum * 31 + x.drop(tap, 7);
            for (int n = 0; n < 2; n++) {
                sum = sum * 31 + x.shut(tap, false);
            }
        }
        for (int c = 0; c < 30; c++) {
            sum = sum * 31 + x.shake(c, 0);
        }
        sum = sum * 31 + x.push(29, 1);
        for (int t = 0; t < 8; t++) {
            for (int day = 0; day < 30; day++) {
                sum = sum * 31 + x.used(t, day);
            }
        }
        sum = sum * 31 + x.dawn(1);
        sum = sum * 31 + by(x);
        sum = sum * 31 + x.undo();
        return sum * 31 + by(x);
    }
}
