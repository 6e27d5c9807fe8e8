/** Section 2 of the document, sentence by sentence: how many spoke, colds, who is silent, the ring's end, months. */
public final class CryingEdgeTest {
    private static final int NONE = GainsaidOnce.NONE;

    private static final Check check = new Check("CryingEdgeTest");

    public static void main(String[] args) {
        decreesOfU();
        silentIfKeptIn();
        silentIfHoarse();
        silentIfNotPinched();
        asItWasReadThere();
        lesserFirst();
        noneSpoke();
        oddNumbers();
        evenNumbers();
        leastClauseIsStruck();
        whatHeSaysInstead();
        hoarseFromThenOn();
        coldAndNobody();
        coldAndHoarseOnes();
        coldAndOthers();
        coldAndKeptIn();
        ringsUp();
        ringsDown();
        decreeGoesOn();
        roundsAreCounted();
        lawOfTheLatest();
        monthEndsHoarseness();
        keptInTillDoneOtherwise();
        movedTillDoneOtherwise();
        check.end();
    }

    /** So many hearers at corner 0, pinched by clause 0; each says clause 1 instead, of clauses 0 to 2. */
    private static String crowd(int n, int cold) {
        return "t7;c0 " + cold + ";" + "h0 1 1;".repeat(n);
    }

    private static void crying(String what, GainsaidOnce x, int decree, int law, int holds, int spoke) {
        check.due(what + ": would, law", x.would(decree, 0, 1, 0), law);
        check.due(what + ": would, holds", x.would(decree, 0, 1, 1), holds);
        check.due(what + ": would, spoke", x.would(decree, 0, 1, 2), spoke);
        check.due(what + ": cry", x.cry(decree, 0, 1), law);
        check.due(what + ": law", x.told(6), law);
        check.due(what + ": holds", x.told(7), holds);
    }

    /** "A DECREE is a SET of CLAUSES of U." */
    private static void decreesOfU() {
        for (int u : new int[] {1, 128, 85, 255}) {
            GainsaidOnce x = Check.told("t" + u + ";c0 0;");
            for (int decree = -1; decree <= 256; decree++) {
                boolean isOne = decree >= 0 && (decree | u) == u;
                check.due("U " + u + ", decree " + decree, x.would(decree, 0, 0, 0),
                    isOne ? decree : GainsaidOnce.UNKNOWN);
            }
        }
    }

    /** "if he is not KEPT IN". */
    private static void silentIfKeptIn() {
        GainsaidOnce x = Check.told(crowd(1, 0));
        x.keepIn(0, true);
        crying("kept in", x, 1, 1, 0, 0);
        check.due("kept in: not hoarse", x.told(8), 0);
        x.keepIn(0, false);
        crying("not kept in", x, 1, 2, 1, 1);
    }

    /** "not HOARSE". */
    private static void silentIfHoarse() {
        GainsaidOnce x = Check.told(crowd(1, 0));
        crying("not hoarse", x, 1, 2, 1, 1);
        crying("hoarse", x, 1, 1, 0, 0);
        check.due("still hoarse", x.told(8), 1);
    }

    /** "and a CLAUSE of the DECREE pinches him". */
    private static void silentIfNotPinched() {
        for (int p = 0; p <= 7; p++) {
            for (int decree = 0; decree <= 7; decree++) {
                GainsaidOnce x = Check.told("t7;c0 0;h0 " + p + " 8;");
                check.due("P " + p + ", decree " + decree, x.would(decree, 0, 0, 2), (p & decree) == 0 ? 0 : 1);
            }
        }
        crying("pinched by clauses that there are not", Check.told("t7;c0 0;h0 248 1;"), 7, 7, 0, 0);
    }

    /** "as it was read there": what the first has struck or said changes nothing for the others there. */
    private static void asItWasReadThere() {
        crying("struck by the first", Check.told("t7;c0 0;h0 1 8;h0 1 8;"), 1, 6, 0, 2);
        crying("said by the first", Check.told("t7;c0 0;h0 1 1;h0 2 8;"), 1, 2, 1, 1);
    }

    /** "lesser first", wherever he came from. */
    private static void lesserFirst() {
        GainsaidOnce x = Check.told("t15;c0 0;c0 0;h1 1 3;h0 1 1;h0 1 2;");
        x.move(0, 0);
        check.due("the least of three", x.cry(1, 0, 0), 8);
        GainsaidOnce y = Check.told("t15;c0 0;h0 4 3;h0 1 1;h0 1 2;h0 1 3;");
        check.due("the least who spoke", y.cry(1, 0, 0), 2);
    }

    /** "none: it does not HOLD there; it goes on as it is." */
    private static void noneSpoke() {
        for (int decree = 0; decree <= 7; decree++) {
            crying("no hearer", Check.told("t7;c0 0;"), decree, decree, 0, 0);
            crying("no hearer, a cold", Check.told("t7;c0 1;"), decree, decree, 0, 0);
        }
        crying("an empty decree", Check.told(crowd(9, 1)), 0, 0, 0, 0);
    }

    /** "Just one, or three, five, seven, nine: it HOLDS there". */
    private static void oddNumbers() {
        for (int n = 1; n <= 9; n += 2) {
            GainsaidOnce x = Check.told(crowd(n, 0));
            crying(n + " spoke", x, 5, 6, 1, n);
            check.due(n + " spoke: hoarse", x.told(8), (1 << n) - 1);
        }
    }

    /** "Two, four, six, eight: it does not HOLD; it is its opposite then: CLAUSES of U that it had not." */
    private static void evenNumbers() {
        for (int n = 2; n <= 8; n += 2) {
            GainsaidOnce x = Check.told(crowd(n, 0));
            crying(n + " spoke", x, 5, 2, 0, n);
            check.due(n + " spoke: hoarse", x.told(8), (1 << n) - 1);
            crying(n + " spoke of all", Check.told(crowd(n, 0)), 7, 0, 0, n);
        }
        crying("the opposite is of U alone", Check.told("t165;c0 0;h0 1 8;h0 1 8;"), 129, 36, 0, 2);
    }

    /** "the first who SPOKE has the least CLAUSE by which he is PINCHED struck". */
    private static void leastClauseIsStruck() {
        for (int p = 1; p <= 255; p++) {
            GainsaidOnce x = Check.told("t255;c0 0;h0 " + p + " 8;");
            check.due("of all, P " + p, x.would(255, 0, 0, 0), 255 - Integer.lowestOneBit(p));
            int high = p & 240;
            check.due("of the upper four, P " + p, x.would(240, 0, 0, 0), 240 - Integer.lowestOneBit(high));
        }
    }

    /** "then what he SAYS instead is in it, if it is of U". */
    private static void whatHeSaysInstead() {
        for (int s = 0; s <= 8; s++) {
            int said = s == 8 ? 0 : (1 << s) & 170;
            crying("says " + s, Check.told("t170;c0 0;h0 8 " + s + ";"), 10, 2 | said, 1, 1);
        }
        crying("says what was struck", Check.told("t1;c0 0;h0 1 0;"), 1, 1, 1, 1);
        crying("says what is in it", Check.told("t3;c0 0;h0 1 1;"), 3, 2, 1, 1);
    }

    /** "All who SPOKE are HOARSE from then on." */
    private static void hoarseFromThenOn() {
        GainsaidOnce x = Check.told("t7;c0 0;c0 0;h0 1 8;h1 2 8;h0 4 8;");
        x.cry(1, 0, 1);
        check.due("one", x.told(8), 1);
        x.cry(2, 0, 1);
        check.due("two", x.told(8), 3);
        x.cry(7, 0, 1);
        check.due("three", x.told(8), 7);
        x.move(0, 1);
        check.due("hoarse at another corner, too", x.would(1, 0, 1, 2), 0);
        check.due("and told so", x.hearer(0, 3), 1);
    }

    /** "Nobody, and a COLD reigns there: it is read again": without hoarse ones it stays so. */
    private static void coldAndNobody() {
        crying("a cold, nobody pinched", Check.told(crowd(3, 1)), 6, 6, 0, 0);
        crying("no cold, nobody pinched", Check.told(crowd(3, 0)), 6, 6, 0, 0);
    }

    private static GainsaidOnce hoarseCrowd(int n, int cold) {
        GainsaidOnce x = Check.told(crowd(n, cold));
        x.cry(1, 0, 0);
        check.due("hoarse ones", x.told(8), (1 << n) - 1);
        return x;
    }

    /** "and HOARSE ones SPEAK, too": as many as are pinched, and they count as at the first reading. */
    private static void coldAndHoarseOnes() {
        for (int n = 1; n <= 9; n++) {
            boolean odd = n % 2 == 1;
            GainsaidOnce x = hoarseCrowd(n, 1);
            crying(n + " hoarse ones, a cold", x, 1, odd ? 2 : 6, odd ? 1 : 0, n);
            check.due(n + " are still hoarse", x.told(8), (1 << n) - 1);
            crying(n + " hoarse ones, no cold", hoarseCrowd(n, 0), 1, 1, 0, 0);
            GainsaidOnce gone = hoarseCrowd(n, 1);
            gone.cold(0, false);
            crying(n + " hoarse ones, the cold is gone", gone, 1, 1, 0, 0);
        }
    }

    /** Somebody spoke at the first reading: it is not read again, and hoarse ones are silent. */
    private static void coldAndOthers() {
        GainsaidOnce x = Check.told("t7;c0 1;h0 1 8;h0 2 2;h0 2 2;");
        x.cry(1, 0, 0);
        crying("two others, a cold", x, 3, 4, 0, 2);
        GainsaidOnce y = Check.told("t7;c0 1;h0 1 8;h0 2 2;");
        y.cry(1, 0, 0);
        crying("one other, a cold", y, 3, 5, 1, 1);
        GainsaidOnce z = Check.told("t7;c0 0;c0 1;h0 1 8;h1 1 8;");
        z.cry(1, 0, 0);
        z.cry(1, 1, 0);
        crying("a cold at the other corner alone", z, 1, 0, 2, 1);
    }

    /** One who is kept in is silent at the second reading, too. */
    private static void coldAndKeptIn() {
        GainsaidOnce x = hoarseCrowd(2, 1);
        x.keepIn(0, true);
        crying("one of two hoarse ones is kept in", x, 1, 2, 1, 1);
        x.keepIn(1, true);
        crying("both are", x, 1, 1, 0, 0);
    }

    /** Corner k passes clause k on as the next one's clause, the last corner as the first one's. */
    private static String ring(int n) {
        StringBuilder text = new StringBuilder("t" + ((1 << n) - 1) + ";" + "c0 0;".repeat(n));
        for (int k = 0; k < n; k++) {
            text.append("h" + k + " " + (1 << k) + " " + (k + 1) % n + ";");
        }
        return text.toString();
    }

    /** "A ROUND: from CORNER k on, up (1: k, k and 1, ..), all CORNERS of the ring once". */
    private static void ringsUp() {
        for (int n = 1; n <= 8; n++) {
            for (int k = 0; k < n; k++) {
                GainsaidOnce x = Check.told(ring(n));
                check.due(n + " corners up from " + k, x.cry(1 << k, k, 1), 1 << k);
                check.due(n + " corners up from " + k + ": holds", x.told(7), (1 << n) - 1);
                check.due(n + " corners up from " + k + ": hoarse", x.told(8), (1 << n) - 1);
            }
        }
    }

    /** "or down (0)": the clause told is passed on once, and again by the corner above, which comes last. */
    private static void ringsDown() {
        for (int n = 2; n <= 8; n++) {
            for (int k = 0; k < n; k++) {
                GainsaidOnce x = Check.told(ring(n));
                int above = (k + 1) % n;
                check.due(n + " corners down from " + k, x.cry(1 << k, k, 0), 1 << (k + 2) % n);
                check.due(n + " corners down from " + k + ": holds", x.told(7), 1 << k | 1 << above);
            }
        }
        check.due("one corner down", Check.told(ring(1)).cry(1, 0, 0), 1);
    }

    /** "the DECREE going on as it becomes": by a compromise, as its opposite, as it is. */
    private static void decreeGoesOn() {
        GainsaidOnce x = Check.told("t15;c0 0;c0 0;c0 0;h0 1 1;h1 2 8;h1 2 8;h2 8 8;");
        // 1 becomes 2, then its opposite 13; of this clause 3 is struck.
        crying("three corners", x, 1, 5, 5, 4);
        GainsaidOnce silent = Check.told("t15;c0 0;c0 0;h1 1 2;");
        crying("nobody at the first", silent, 1, 4, 2, 1);
    }

    /** "ROUNDS are counted." */
    private static void roundsAreCounted() {
        GainsaidOnce x = Check.told(ring(3));
        for (int n = 1; n <= 5; n++) {
            x.cry(n, 0, 1);
            check.due("rounds", x.told(4), n);
        }
        x.would(1, 0, 1, 0);
        x.month();
        check.due("no rounds by other calls", x.told(4), 5);
    }

    /** "LAW: what comes out in the end; it HOLDS where it did": of the latest ROUND alone. */
    private static void lawOfTheLatest() {
        GainsaidOnce x = Check.told("t7;c0 0;c0 0;h0 1 8;h1 2 8;");
        check.due("no round yet", x.told(6), NONE);
        check.due("holds nowhere yet", x.told(7), 0);
        x.cry(3, 0, 1);
        check.due("law", x.told(6), 0);
        check.due("holds at both", x.told(7), 3);
        x.cry(5, 0, 1);
        check.due("the next law", x.told(6), 5);
        check.due("it holds nowhere", x.told(7), 0);
    }

    /** "A MONTH: nobody is HOARSE any more." */
    private static void monthEndsHoarseness() {
        for (int n = 0; n <= 9; n++) {
            GainsaidOnce x = Check.told(crowd(n, 0));
            x.cry(1, 0, 0);
            check.due(n + " were hoarse", x.month(), n);
            check.due("nobody is", x.told(8), 0);
            check.due("nobody was", x.month(), 0);
            check.due("they speak again", x.would(1, 0, 0, 2), n);
            check.due("the law is as it was", x.told(6), n == 0 ? 1 : n % 2 == 1 ? 2 : 6);
            check.due("where it holds, too", x.told(7), n % 2);
        }
    }

    /** "KEPT IN: till that is done otherwise." */
    private static void keptInTillDoneOtherwise() {
        GainsaidOnce x = Check.told("t7;c0 0;" + "h0 1 1;".repeat(9));
        for (int h = 0; h < 9; h++) {
            check.due("he was not", x.keepIn(h, true), 0);
            x.month();
            x.cry(1, 0, 0);
            check.due("kept in", x.told(9), (2 << h) - 1);
            check.due("the others spoke", Integer.bitCount(x.told(8)), 8 - h);
        }
        check.due("the last again", x.keepIn(8, true), 1);
        check.due("and out", x.keepIn(8, false), 1);
        check.due("and out again", x.keepIn(8, false), 0);
        check.due("all others", x.told(9), 255);
        check.due("he was not hoarse", x.would(1, 0, 0, 2), 1);
    }

    /** "MOVED: till that is done otherwise." */
    private static void movedTillDoneOtherwise() {
        GainsaidOnce x = Check.told("t1;" + "c0 0;".repeat(8) + "h0 1 8;");
        int from = 0;
        for (int k = 7; k >= 0; k--) {
            check.due("from where", x.move(0, k), from);
            x.month();
            x.cry(1, 3, 1);
            check.due("he stands there", x.hearer(0, 0), k);
            check.due("he is seen there", x.corner(k, 2), 1);
            check.due("he speaks there", x.told(7), 1 << k);
            from = k;
        }
        check.due("to where he stands", x.move(0, 0), 0);
        check.due("he stays", x.hearer(0, 0), 0);
    }
}
