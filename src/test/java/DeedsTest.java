/** Promises 8 to 14: cryings, months, who is kept in or moved, colds, draws, undoing. */
public final class DeedsTest {
    private static final int NONE = GainsaidOnce.NONE;
    private static final int UNKNOWN = GainsaidOnce.UNKNOWN;
    private static final int OUTSIDE = GainsaidOnce.OUTSIDE;
    private static final int NOT = GainsaidOnce.NOT;
    private static final int FULL = GainsaidOnce.FULL;

    private static final Check check = new Check("DeedsTest");

    public static void main(String[] args) {
        cryByHowManySpoke();
        cryStrikesAndSays();
        cryWithColds();
        cryRoundTheRing();
        cryRefuses();
        cryIsFull();
        month();
        keepIn();
        move();
        cold();
        drift();
        driftWithoutCorners();
        driftRefuses();
        driftIsFull();
        undo();
        undoOfEachDeed();
        undoKeepsThirty();
        check.end();
    }

    private static String crowd(int n) {
        StringBuilder text = new StringBuilder("t7;c0 0;");
        for (int h = 0; h < n; h++) {
            text.append("h0 1 ").append(h == 0 ? 1 : 2).append(';');
        }
        return text.toString();
    }

    private static void cryByHowManySpoke() {
        for (int n = 0; n <= 9; n++) {
            GainsaidOnce x = Check.told(crowd(n));
            int law = n == 0 ? 1 : n % 2 == 1 ? 2 : 6;
            check.due("law by " + n, x.cry(1, 0, 1), law);
            check.due("holds by " + n, x.told(7), n % 2);
            check.due("hoarse by " + n, x.told(8), (1 << n) - 1);
            check.due("rounds by " + n, x.told(4), 1);
            check.due("told law by " + n, x.told(6), law);
        }
    }

    private static void cryStrikesAndSays() {
        GainsaidOnce x = Check.told("t63;c0 0;h0 52 3;");
        // Pinched by 2, 4, 5; the decree has 0, 4, 5: 4 is the least of both, 3 is said.
        check.due("least clause that is in the decree", x.cry(49, 0, 1), 41);
        check.due("he is hoarse now", x.cry(49, 0, 1), 49);
        x.month();
        check.due("none of his clauses", x.cry(11, 0, 1), 11);
        check.due("he did not speak", x.told(8), 0);
        GainsaidOnce same = Check.told("t3;c0 0;h0 1 0;");
        check.due("says what was struck", same.cry(1, 0, 0), 1);
        check.due("and it holds", same.told(7), 1);
        GainsaidOnce strange = Check.told("t3;c0 0;h0 255 2;");
        check.due("says what is not of U", strange.cry(3, 0, 0), 2);
        GainsaidOnce pinched = Check.told("t3;c0 0;h0 252 0;");
        check.due("pinched by what is not of U", pinched.cry(3, 0, 0), 3);
        check.due("and silent", pinched.told(8), 0);
        GainsaidOnce first = Check.told("t15;c0 0;h0 8 8;h0 4 1;h0 12 0;");
        check.due("the first of three has his way", first.cry(12, 0, 0), 4);
        GainsaidOnce opposite = Check.told("t42;c0 0;h0 2 0;h0 2 0;");
        check.due("the opposite is of U", opposite.cry(2, 0, 0), 40);
        GainsaidOnce kept = Check.told("t3;c0 0;h0 1 8;h0 1 1;");
        kept.keepIn(0, true);
        check.due("the first is kept in", kept.cry(1, 0, 0), 2);
        check.due("and is not hoarse", kept.told(8), 2);
    }

    private static void cryWithColds() {
        GainsaidOnce x = Check.told("t15;c0 1;h0 1 8;h0 2 3;");
        check.due("cold: one speaks", x.cry(1, 0, 1), 0);
        check.due("cold: the other, no hoarse one besides", x.cry(3, 0, 1), 9);
        check.due("cold: both are hoarse", x.told(8), 3);
        check.due("cold: read again, both speak", x.cry(3, 0, 1), 12);
        check.due("cold: it does not hold", x.told(7), 0);
        check.due("cold: read again, one speaks", x.cry(1, 0, 1), 0);
        check.due("cold: it holds", x.told(7), 1);
        check.due("cold: read again, nobody pinched", x.cry(12, 0, 1), 12);
        check.due("cold: it does not hold either", x.told(7), 0);
        x.keepIn(0, true);
        check.due("cold: who is kept in stays silent", x.cry(1, 0, 1), 1);
        x.keepIn(0, false);
        x.cold(0, false);
        check.due("no cold: nobody speaks", x.cry(1, 0, 1), 1);
        check.due("no cold: it does not hold", x.told(7), 0);
    }

    private static void cryRoundTheRing() {
        // Each corner passes its own clause on to the next one up.
        String text = "t15;c0 0;c0 0;c0 0;h0 1 1;h1 2 2;h2 4 3;";
        check.due("up from 0", Check.told(text).cry(1, 0, 1), 8);
        check.due("up from 1", Check.told(text).cry(1, 1, 1), 2);
        check.due("up from 2", Check.told(text).cry(4, 2, 1), 8);
        check.due("down from 0", Check.told(text).cry(1, 0, 0), 4);
        check.due("down from 1", Check.told(text).cry(1, 1, 0), 2);
        check.due("down from 2", Check.told(text).cry(7, 2, 0), 14);
        GainsaidOnce x = Check.told(text);
        x.cry(1, 1, 1);
        check.due("where it holds", x.told(7), 1);
        x.cry(2, 1, 1);
        check.due("where the next one holds", x.told(7), 6);
        check.due("all hoarse ones", x.told(8), 7);
        check.due("rounds", x.told(4), 2);
        GainsaidOnce again = Check.told("t3;c0 0;c0 0;h0 1 8;h1 1 8;");
        again.move(1, 0);
        check.due("moved before it", again.cry(1, 1, 1), 2);
    }

    private static void cryRefuses() {
        GainsaidOnce x = Check.told("t5;c0 0;h0 1 8;");
        check.due("corner 1", x.cry(1, 1, 0), UNKNOWN);
        check.due("corner -1", x.cry(1, -1, 0), UNKNOWN);
        check.due("clause 1", x.cry(2, 0, 0), UNKNOWN);
        check.due("clause 8", x.cry(257, 0, 0), UNKNOWN);
        check.due("decree -1", x.cry(-1, 0, 0), UNKNOWN);
        check.due("way 2", x.cry(1, 0, 2), OUTSIDE);
        check.due("way -1", x.cry(1, 0, -1), OUTSIDE);
        check.due("UNKNOWN ahead of OUTSIDE", x.cry(1, 1, 2), UNKNOWN);
        check.due("UNKNOWN clause ahead of OUTSIDE", x.cry(2, 0, 2), UNKNOWN);
        check.due("no round was counted", x.told(4), 0);
        check.due("nothing to undo", x.told(13), 0);
        check.due("the empty decree", x.cry(0, 0, 0), 0);
    }

    private static GainsaidOnce old() {
        GainsaidOnce x = Check.told("t1;c0 0;");
        for (int i = 0; i < 450; i++) {
            x.drift(20);
        }
        check.due("old rounds", x.told(4), 9000);
        check.due("old months", x.told(5), 9000);
        return x;
    }

    private static void cryIsFull() {
        GainsaidOnce x = old();
        check.due("round 9001", x.cry(1, 0, 0), 1);
        check.due("round 9002", x.cry(1, 0, 0), FULL);
        check.due("OUTSIDE ahead of FULL", x.cry(1, 0, 2), OUTSIDE);
        check.due("UNKNOWN ahead of FULL", x.cry(2, 0, 0), UNKNOWN);
        check.due("drift by rounds", x.drift(1), FULL);
        check.due("rounds stay", x.told(4), 9001);
        check.due("would goes on", x.would(1, 0, 0, 0), 1);
        check.due("month 9001", x.month(), 0);
        check.due("month 9002", x.month(), FULL);
        check.due("months stay", x.told(5), 9001);
        check.due("undone", x.undo(2), 9000);
        check.due("round 9001 again", x.cry(0, 0, 0), 0);
    }

    private static void month() {
        GainsaidOnce x = Check.told("t3;c0 0;h0 1 8;h0 1 8;h0 2 8;");
        check.due("nobody hoarse", x.month(), 0);
        x.cry(1, 0, 0);
        check.due("two spoke", x.told(8), 3);
        check.due("two hoarse", x.month(), 2);
        check.due("nobody hoarse any more", x.told(8), 0);
        check.due("months", x.told(5), 2);
        x.keepIn(1, true);
        x.move(0, 0);
        x.month();
        check.due("kept in for longer", x.told(9), 2);
        check.due("the law stays", x.told(6), 2);
        check.due("without corners", Check.told("t1;").month(), 0);
        check.due("without a town", new GainsaidOnce().month(), NOT);
    }

    private static void keepIn() {
        GainsaidOnce x = Check.told("t1;c0 0;h0 1 8;h0 1 8;");
        check.due("keepIn(1, true)", x.keepIn(1, true), 0);
        check.due("keepIn(1, true) again", x.keepIn(1, true), 1);
        check.due("who is kept in", x.told(9), 2);
        check.due("keepIn(0, true)", x.keepIn(0, true), 0);
        check.due("keepIn(1, false)", x.keepIn(1, false), 1);
        check.due("keepIn(1, false) again", x.keepIn(1, false), 0);
        check.due("who is kept in now", x.told(9), 1);
        check.due("one speaks", x.cry(1, 0, 0), 0);
        check.due("keepIn(2, true)", x.keepIn(2, true), UNKNOWN);
        check.due("keepIn(-1, false)", x.keepIn(-1, false), UNKNOWN);
        check.due("keepIn(32, true)", x.keepIn(32, true), UNKNOWN);
        check.due("six deeds", x.told(13), 6);
    }

    private static void move() {
        GainsaidOnce x = Check.told("t1;c0 0;c0 0;h0 1 8;");
        check.due("move(0, 1)", x.move(0, 1), 0);
        check.due("move(0, 1) again", x.move(0, 1), 1);
        check.due("place", x.hearer(0, 0), 1);
        x.cry(1, 0, 1);
        check.due("he speaks there", x.told(7), 2);
        check.due("move(1, 0)", x.move(1, 0), UNKNOWN);
        check.due("move(-1, 0)", x.move(-1, 0), UNKNOWN);
        check.due("move(0, 2)", x.move(0, 2), UNKNOWN);
        check.due("move(0, -1)", x.move(0, -1), UNKNOWN);
        check.due("three deeds", x.told(13), 3);
        x.month();
        check.due("he stays there", x.hearer(0, 0), 1);
    }

    private static void cold() {
        GainsaidOnce x = Check.told("t1;c0 0;c0 1;");
        check.due("cold(0, true)", x.cold(0, true), 0);
        check.due("cold(0, true) again", x.cold(0, true), 1);
        check.due("cold(1, false)", x.cold(1, false), 1);
        check.due("cold(1, false) again", x.cold(1, false), 0);
        check.due("colds", x.told(10), 1);
        check.due("cold(2, true)", x.cold(2, true), UNKNOWN);
        check.due("cold(-1, true)", x.cold(-1, true), UNKNOWN);
        check.due("four deeds", x.told(13), 4);
        x.month();
        check.due("colds stay", x.told(10), 1);
    }

    /** The same months done by cry() and month(), with the draws made here. */
    private static void drift() {
        String text = "t93;c0 1;c0 0;c0 1;c0 0;c0 1;h0 65 2;h1 20 3;h2 8 8;h3 29 6;h3 64 0;h4 5 4;";
        for (int start = 0; start < 2000; start += 97) {
            GainsaidOnce drifting = Check.told(text);
            GainsaidOnce crying = Check.told(text);
            drifting.seed(start);
            long seed = start;
            int law = NONE;
            for (int m = 0; m < 20; m++) {
                int[] draw = new int[3];
                int[] of = {256, 5, 2};
                for (int d = 0; d < 3; d++) {
                    seed = (seed * 1103515245L + 12345L) % 2147483648L;
                    draw[d] = (int) (seed / 65536 % of[d]);
                }
                law = crying.cry(draw[0] & 93, draw[1], draw[2]);
                crying.month();
            }
            check.due("drift from " + start, drifting.drift(20), law);
            check.due("rounds of drift", drifting.told(4), 20);
            check.due("months of drift", drifting.told(5), 20);
            check.due("law of drift", drifting.told(6), law);
            check.due("where it holds", drifting.told(7), crying.told(7));
            check.due("nobody hoarse", drifting.told(8), 0);
            check.due("deeds of drift", drifting.told(13), 20);
            check.due("seed of drift", drifting.seed(0), seed);
        }
    }

    private static void driftWithoutCorners() {
        GainsaidOnce x = Check.told("t1;");
        x.seed(9);
        check.due("drift without corners", x.drift(3), NONE);
        check.due("months without corners", x.told(5), 3);
        check.due("rounds without corners", x.told(4), 0);
        check.due("nothing was drawn", x.seed(0), 9);
        check.due("three can be undone", x.undo(3), 0);
        check.due("no months then", x.told(5), 0);
    }

    private static void driftRefuses() {
        GainsaidOnce x = Check.told("t1;c0 0;");
        check.due("drift(0)", x.drift(0), OUTSIDE);
        check.due("drift(21)", x.drift(21), OUTSIDE);
        check.due("drift(-1)", x.drift(-1), OUTSIDE);
        check.due("no seed was drawn", x.seed(0), 0);
        check.due("drift without a town", new GainsaidOnce().drift(20), NOT);
        check.due("OUTSIDE ahead of NOT", new GainsaidOnce().drift(21), OUTSIDE);
    }

    private static void driftIsFull() {
        GainsaidOnce x = old();
        check.holds("drift at 9000", x.drift(20) != FULL);
        check.due("rounds run over", x.told(4), 9020);
        int seed = x.seed(0);
        x.seed(seed);
        check.due("drift above 9000", x.drift(1), FULL);
        check.due("cry above 9000", x.cry(0, 0, 0), FULL);
        check.due("month above 9000", x.month(), FULL);
        check.due("the seed stays", x.seed(0), seed);
        check.due("OUTSIDE ahead of FULL", x.drift(0), OUTSIDE);
        GainsaidOnce months = Check.told("t1;");
        for (int i = 0; i < 451; i++) {
            months.drift(20);
        }
        check.due("months alone", months.told(5), 9020);
        check.due("drift by months", months.drift(1), FULL);
    }

    private static void undo() {
        GainsaidOnce x = Check.told("t3;c0 0;h0 1 1;");
        check.due("undo(0)", x.undo(0), OUTSIDE);
        check.due("undo(31)", x.undo(31), OUTSIDE);
        check.due("undo(-1)", x.undo(-1), OUTSIDE);
        check.due("undo(1) of nothing", x.undo(1), NOT);
        x.cry(1, 0, 0);
        x.cry(1, 0, 0);
        check.due("undo(3) of two", x.undo(3), NOT);
        check.due("undo(1)", x.undo(1), 1);
        check.due("one left", x.told(13), 1);
        check.due("the law ahead of it", x.told(6), 2);
        check.due("undo(1) again", x.undo(1), 0);
        check.due("no law", x.told(6), NONE);
        check.due("holds nowhere", x.told(7), 0);
        check.due("nobody hoarse", x.told(8), 0);
        x.seed(3);
        x.drift(2);
        int seed = x.seed(0);
        x.seed(seed);
        x.see(1, 0, 0);
        x.write(1);
        check.due("undo(2) of drift", x.undo(2), 0);
        check.due("no months", x.told(5), 0);
        check.due("the seed stays", x.seed(0), seed);
        check.due("what was seen stays", x.told(11), 1);
        check.due("the book stays", x.told(12), 1);
        x.drift(2);
        check.due("half of drift", x.undo(1), 1);
        check.due("half of its months", x.told(5), 1);
    }

    private static void undoOfEachDeed() {
        GainsaidOnce x = Check.told("t3;c0 0;c0 1;h0 1 1;h1 2 8;");
        x.cry(1, 0, 1);
        int hoarse = x.told(8);
        x.month();
        x.undo(1);
        check.due("month undone", x.told(8), hoarse);
        check.due("months then", x.told(5), 0);
        x.keepIn(0, true);
        x.undo(1);
        check.due("keepIn undone", x.told(9), 0);
        x.move(0, 1);
        x.undo(1);
        check.due("move undone", x.hearer(0, 0), 0);
        x.cold(1, false);
        x.undo(1);
        check.due("cold undone", x.told(10), 2);
        x.cold(0, true);
        x.move(0, 1);
        x.keepIn(1, true);
        x.month();
        x.cry(3, 0, 0);
        check.due("many at once", x.undo(5), 1);
        check.due("colds then", x.told(10), 2);
        check.due("place then", x.hearer(0, 0), 0);
        check.due("kept in then", x.told(9), 0);
        check.due("hoarse then", x.told(8), hoarse);
        check.due("one left", x.told(13), 1);
    }

    private static void undoKeepsThirty() {
        GainsaidOnce x = Check.told("t3;c0 0;h0 1 1;");
        for (int n = 1; n <= 47; n++) {
            x.cry(1, 0, 0);
            check.due("deeds kept", x.told(13), Math.min(n, 30));
        }
        check.due("undo(7)", x.undo(7), 40);
        x.month();
        check.due("deeds then", x.told(13), 24);
        check.due("undo(24)", x.undo(24), 17);
        check.due("no deeds then", x.told(13), 0);
        x.drift(20);
        x.drift(20);
        check.due("drift twice", x.told(13), 30);
        check.due("undo(30)", x.undo(30), 27);
        check.due("months left", x.told(5), 10);
    }
}
