/** Promises 22 to 26: what was seen and who may be behind it, the book and its judge. */
public final class SeenTest {
    private static final int NONE = GainsaidOnce.NONE;
    private static final int UNKNOWN = GainsaidOnce.UNKNOWN;
    private static final int OUTSIDE = GainsaidOnce.OUTSIDE;
    private static final int FULL = GainsaidOnce.FULL;

    private static final Check check = new Check("SeenTest");

    public static void main(String[] args) {
        see();
        behindAll();
        behind();
        behindAsAllIsNow();
        look();
        write();
        judge();
        tear();
        check.end();
    }

    private static void see() {
        GainsaidOnce x = Check.told("t5;c0 0;c0 0;h0 1 8;");
        check.due("clause 1", x.see(2, 0, 0), UNKNOWN);
        check.due("decree -1", x.see(-1, 0, 0), UNKNOWN);
        check.due("corner 2", x.see(1, 2, 0), UNKNOWN);
        check.due("corner -1", x.see(1, -1, 0), UNKNOWN);
        check.due("UNKNOWN first", x.see(1, 2, 10), UNKNOWN);
        check.due("spoke 10", x.see(1, 0, 10), OUTSIDE);
        check.due("spoke -1", x.see(1, 0, -1), OUTSIDE);
        check.due("nothing seen", x.told(11), 0);
        for (int n = 1; n <= 6; n++) {
            check.due("seen " + n, x.see(n % 2, n % 2, n == 6 ? 9 : 0), n);
        }
        check.due("seen 7", x.see(1, 0, 0), FULL);
        check.due("OUTSIDE ahead of FULL", x.see(1, 0, 10), OUTSIDE);
        check.due("UNKNOWN ahead of FULL", x.see(2, 0, 0), UNKNOWN);
        check.due("told", x.told(11), 6);
        check.due("no deed", x.told(13), 0);
    }

    /** With nothing seen all sets fit: their order can be told whole. */
    private static void behindAll() {
        GainsaidOnce x = Check.told("t1;c0 0;h0 1 8;h0 1 8;h0 1 8;h0 1 8;h0 1 8;h0 1 8;h0 1 8;h0 1 8;h0 1 8;");
        check.due("all of nine", x.behind(-1), 46);
        int i = 0;
        for (int size = 0; size <= 2; size++) {
            for (int set = 0; set < 512; set++) {
                if (Integer.bitCount(set) == size) {
                    check.due("behind(" + i + ")", x.behind(i), set);
                    i++;
                }
            }
        }
        check.due("behind(46)", x.behind(46), NONE);
        check.due("behind(-3)", x.behind(-3), NONE);
        check.due("behind(greatest)", x.behind(Integer.MAX_VALUE), NONE);
        check.due("behind(least)", x.behind(Integer.MIN_VALUE), NONE);
        x.keepIn(4, true);
        check.due("all of eight", x.behind(-1), 37);
        check.due("without 4", x.behind(5), 32);
        check.due("a town without corners", Check.told("t1;").behind(-1), 1);
    }

    private static void behind() {
        GainsaidOnce x = Check.told("t7;c0 0;c0 0;h0 1 8;h0 3 8;h1 4 8;");
        x.see(1, 0, 1);
        // Just one of 0, 1 is kept in, 2 as he likes.
        int[] due = {1, 2, 5, 6};
        check.due("one of two spoke", x.behind(-1), due.length);
        for (int i = 0; i < due.length; i++) {
            check.due("one of two spoke: " + i, x.behind(i), due[i]);
        }
        check.due("behind the last", x.behind(4), NONE);
        x.see(2, 0, 0);
        check.due("1 is kept in", x.behind(-1), 2);
        check.due("1 alone", x.behind(0), 2);
        x.see(4, 1, 0);
        check.due("and 2", x.behind(0), 6);
        check.due("no other", x.behind(-1), 1);
        x.see(7, 1, 9);
        check.due("never nine", x.behind(-1), 0);
        check.due("never nine: the first", x.behind(0), NONE);
        check.due("never nine: look", x.behind(-2), NONE);
    }

    private static void behindAsAllIsNow() {
        GainsaidOnce x = Check.told("t3;c0 0;c0 0;h0 1 8;h0 1 8;");
        x.see(1, 0, 2);
        x.see(1, 0, 2);
        check.due("each by itself", x.behind(-1), 1);
        x.cry(1, 0, 1);
        check.due("hoarse ones cannot have spoken", x.behind(-1), 0);
        x.cold(0, true);
        check.due("but by a cold", x.behind(-1), 1);
        x.cold(0, false);
        x.month();
        check.due("nor a month later", x.behind(-1), 1);
        x.move(1, 1);
        check.due("moved", x.behind(-1), 0);
        x.move(1, 0);
        x.keepIn(1, true);
        check.due("kept in already", x.behind(-1), 0);
        x.tear();
        x.see(1, 0, 1);
        check.due("the other spoke", x.behind(-1), 1);
        x.see(1, 0, 0);
        check.due("and did not", x.behind(-1), 0);
        GainsaidOnce kept = Check.told("t3;c0 0;h0 1 8;h0 1 8;");
        kept.keepIn(0, true);
        kept.see(1, 0, 0);
        check.due("besides who is kept in", kept.behind(0), 2);
    }

    private static void look() {
        GainsaidOnce x = Check.told("t7;c0 0;c0 0;h0 1 8;h0 3 8;h1 4 8;");
        // Seven sets: each hearer is in three of them.
        check.due("like ones: the least", x.behind(-2), 0);
        x.see(4, 1, 1);
        // 0, 1, 2, 3: halves by 0 and by 1.
        check.due("2 parts nothing", x.behind(-2), 0);
        x.see(2, 0, 1);
        // 0 and 1: halves by 0.
        check.due("0 parts", x.behind(-2), 0);
        x.see(1, 0, 1);
        check.due("one set alone", x.behind(-1), 1);
        check.due("none parts", x.behind(-2), NONE);
        x.tear();
        x.see(1, 0, 0);
        check.due("one set alone: both", x.behind(0), 3);
        x.tear();
        x.see(2, 0, 0);
        // 2, 3, 6: 1 is in all, 0 and 2 in one each.
        check.due("1 is in all", x.behind(-2), 0);
        x.keepIn(0, true);
        // 2, 6: 2 parts them.
        check.due("0 is kept in already", x.behind(-2), 2);
        // By the third alone: {0}, {0,2}, {1}, {1,2} are halved by 0 as by 1 and 2.
        GainsaidOnce y = Check.told("t7;c0 0;h0 4 8;h0 1 8;h0 1 8;");
        y.see(1, 0, 1);
        y.see(4, 0, 1);
        check.due("1 or 2", y.behind(-1), 2);
        check.due("parted by 1", y.behind(-2), 1);
    }

    private static void write() {
        GainsaidOnce x = new GainsaidOnce();
        check.due("write(-1)", x.write(-1), OUTSIDE);
        check.due("write(256)", x.write(256), OUTSIDE);
        check.due("write(0)", x.write(0), 1);
        check.due("write(255)", x.write(255), 2);
        for (int n = 3; n <= 20; n++) {
            check.due("write " + n, x.write(7), n);
        }
        check.due("write 21", x.write(7), FULL);
        check.due("OUTSIDE ahead of FULL", x.write(256), OUTSIDE);
        check.due("entries", x.told(12), 20);
    }

    private static void judge() {
        GainsaidOnce x = Check.told("t7;c0 0;h0 1 1;");
        check.due("no book", x.judge(), NONE);
        x.write(2);
        check.due("no round", x.judge(), 0);
        x.cry(1, 0, 0);
        check.due("as it came out", x.judge(), NONE);
        x.write(2);
        x.write(4);
        x.write(1);
        check.due("the third is wrong", x.judge(), 2);
        x.cry(4, 0, 0);
        check.due("all by another round", x.judge(), 0);
        x.undo(1);
        check.due("and by the one ahead of it", x.judge(), 2);
        GainsaidOnce last = Check.told("t7;c0 0;");
        last.cry(5, 0, 0);
        for (int n = 0; n < 19; n++) {
            last.write(5);
        }
        check.due("nineteen right", last.judge(), NONE);
        last.write(4);
        check.due("the last is wrong", last.judge(), 19);
    }

    private static void tear() {
        GainsaidOnce x = Check.told("t7;c0 0;h0 1 1;");
        check.due("nothing torn", x.tear(), 0);
        x.see(1, 0, 1);
        x.see(1, 0, 0);
        x.write(9);
        x.write(9);
        x.write(9);
        check.due("both", x.tear(), 5);
        check.due("nothing seen", x.told(11), 0);
        check.due("no book", x.told(12), 0);
        check.due("judge of none", x.judge(), NONE);
        check.due("behind all", x.behind(-1), 2);
        check.due("see again", x.see(1, 0, 1), 1);
        check.due("write again", x.write(1), 1);
        check.due("no deeds", x.told(13), 0);
    }
}
