/** Promises 15 to 21: what is tried without changing anything. */
public final class TriedTest {
    private static final int NONE = GainsaidOnce.NONE;
    private static final int UNKNOWN = GainsaidOnce.UNKNOWN;
    private static final int OUTSIDE = GainsaidOnce.OUTSIDE;
    /** Each corner passes its own clause on to the next one up. */
    private static final String CHAIN = "t15;c5 0;c9 0;c2 0;h0 1 1;h1 2 2;h2 4 3;";

    private static final Check check = new Check("TriedTest");

    public static void main(String[] args) {
        would();
        bestRound();
        bestRoundKeepsIn();
        bestRoundOrder();
        began();
        passed();
        hired();
        hiredBesideHearers();
        spoilt();
        odds();
        nothingChanges();
        roundRefusals();
        check.end();
    }

    private static void would() {
        GainsaidOnce x = Check.told(CHAIN);
        check.due("would: law", x.would(1, 0, 1, 0), 8);
        check.due("would: holds", x.would(1, 0, 1, 1), 7);
        check.due("would: spoke", x.would(1, 0, 1, 2), 3);
        check.due("would down: law", x.would(1, 0, 0, 0), 4);
        check.due("would down: holds", x.would(1, 0, 0, 1), 3);
        check.due("would down: spoke", x.would(1, 0, 0, 2), 2);
        check.due("would is as cry", x.cry(1, 0, 0), 4);
        check.due("would: two are hoarse", x.would(7, 2, 1, 2), 1);
        GainsaidOnce pair = Check.told("t3;c0 0;c0 1;h0 1 8;h0 1 8;h1 2 8;");
        check.due("would: three spoke", pair.would(1, 0, 1, 2), 3);
        check.due("would: holds at the second", pair.would(1, 0, 1, 1), 2);
        check.due("what 3", x.would(1, 0, 1, 3), OUTSIDE);
        check.due("what -1", x.would(1, 0, 1, -1), OUTSIDE);
    }

    private static void bestRound() {
        GainsaidOnce x = Check.told(CHAIN);
        check.due("best: 0 up", x.bestRound(1, 0, 0), 1);
        check.due("best: nobody in", x.bestRound(1, 0, 1), 0);
        check.due("best: with clause 3", x.bestRound(1, 8, 0), 1);
        check.due("best: never clause 0", x.bestRound(1, 1, 0), NONE);
        check.due("best: never clause 0, the set", x.bestRound(1, 1, 1), NONE);
        check.due("best: from 2 down", x.bestRound(7, 14, 0), 4);
        check.due("best: an empty decree", x.bestRound(0, 0, 0), NONE);
        check.due("best: must not of U", x.bestRound(1, 16, 0), UNKNOWN);
        check.due("best: decree not of U", x.bestRound(16, 1, 0), UNKNOWN);
        check.due("best: negative", x.bestRound(-1, 1, 0), UNKNOWN);
        check.due("best: what 2", x.bestRound(1, 1, 2), OUTSIDE);
        check.due("best: what -1", x.bestRound(1, 1, -1), OUTSIDE);
        check.due("best: UNKNOWN first", x.bestRound(1, 16, 2), UNKNOWN);
        check.due("best: no corners", Check.told("t1;").bestRound(1, 0, 0), NONE);
    }

    private static void bestRoundKeepsIn() {
        GainsaidOnce three = Check.told("t15;c0 0;h0 1 8;h0 1 1;h0 1 2;");
        check.due("three: as they are", three.bestRound(1, 0, 1), 0);
        check.due("three: down first", three.bestRound(1, 0, 0), 0);
        check.due("three: with clause 1", three.bestRound(1, 2, 1), 5);
        check.due("three: with clause 2", three.bestRound(1, 4, 1), 3);
        check.due("three: with both", three.bestRound(1, 6, 1), NONE);
        three.keepIn(0, true);
        check.due("besides 0: with clause 2", three.bestRound(1, 4, 1), 2);
        check.due("besides 0: with clause 1", three.bestRound(1, 2, 1), 4);
        check.due("besides 0: the least", three.bestRound(1, 0, 1), 2);
        GainsaidOnce four = Check.told("t15;c0 0;h0 1 8;h0 1 8;h0 1 8;h0 1 1;");
        check.due("four: one kept in", four.bestRound(1, 0, 1), 1);
        check.due("four: three would be too many", four.bestRound(1, 2, 1), NONE);
        four.keepIn(1, true);
        check.due("four: two besides one", four.bestRound(1, 2, 1), 5);
    }

    private static void bestRoundOrder() {
        // Keeping 0 in helps from corner 1 alone, keeping 2 in from corner 0: the lesser set comes first.
        GainsaidOnce x = Check.told("t7;c0 0;c0 0;h0 2 1;h1 1 8;h0 3 8;");
        check.due("order: the lesser set", x.bestRound(7, 0, 1), 1);
        check.due("order: its corner and way", x.bestRound(7, 0, 0), 2);
        // One corner each way is the same; down is ahead of up.
        GainsaidOnce two = Check.told("t3;c0 0;c0 0;h0 3 8;h1 3 8;");
        check.due("order: corner 0, down", two.bestRound(3, 0, 0), 0);
        GainsaidOnce late = Check.told("t7;c0 0;c0 0;c0 0;h0 1 8;h1 2 0;h2 4 1;");
        check.due("order: corner 2, down", late.bestRound(4, 0, 0), 4);
        // Nobody kept in from corner 1 is ahead of one kept in from corner 0.
        GainsaidOnce few = Check.told("t7;c0 0;c0 0;h0 1 8;h0 2 8;h1 2 8;");
        check.due("order: the fewest", few.bestRound(3, 0, 1), 0);
        check.due("order: though from 1", few.bestRound(3, 0, 0), 2);
    }

    private static void began() {
        GainsaidOnce x = Check.told("t7;c0 0;h0 1 1;h0 2 2;");
        int[] comesOut = {0, 2, 4, 4, 4, 6, 4, 0};
        for (int law = 0; law < 8; law++) {
            int count = 0;
            int sure = 7;
            for (int decree = 0; decree < 8; decree++) {
                if (comesOut[decree] == law) {
                    check.due("began(" + law + ") the " + count, x.began(law, 0, 1, count), decree);
                    count++;
                    sure &= decree;
                }
            }
            check.due("began(" + law + ") how many", x.began(law, 0, 0, -1), count);
            check.due("began(" + law + ") sure", x.began(law, 0, 1, -2), count == 0 ? 0 : sure);
            check.due("began(" + law + ") behind the last", x.began(law, 0, 1, count), NONE);
            check.due("began(" + law + ") -3", x.began(law, 0, 1, -3), NONE);
        }
        check.due("began: greatest i", x.began(4, 0, 1, Integer.MAX_VALUE), NONE);
        check.due("began: law 8", x.began(8, 0, 1, 0), UNKNOWN);
        check.due("began: law -1", x.began(-1, 0, 1, 0), UNKNOWN);
        check.due("began: corner 1", x.began(4, 1, 1, 0), UNKNOWN);
        check.due("began: way 2", x.began(4, 0, 2, 0), OUTSIDE);
        GainsaidOnce chain = Check.told(CHAIN);
        check.due("began: up", chain.began(8, 0, 1, -1), 15);
        // Down from 0: clause 0 becomes 1, 2 becomes 3, 1 becomes 2, in this order.
        check.due("began: down", chain.began(4, 0, 0, -1), 3);
        check.due("began: down, the last", chain.began(4, 0, 0, 2), 3);
        GainsaidOnce sparse = Check.told("t160;c0 0;");
        check.due("began: of U alone", sparse.began(160, 0, 1, -1), 1);
        check.due("began: it", sparse.began(160, 0, 1, 0), 160);
    }

    private static void passed() {
        GainsaidOnce x = Check.told("t3;c0 0;c0 0;c0 1;c0 0;h0 1 8;h1 1 8;h1 1 8;h2 2 8;h3 4 8;");
        check.due("passed", x.passed(), 5);
        check.due("cry for passed", x.cry(3, 0, 1), 0);
        check.due("passed: a hoarse one, a cold", x.passed(), 4);
        x.keepIn(3, true);
        check.due("passed: nobody", x.passed(), 0);
        x.keepIn(1, true);
        check.due("passed: one of two", x.passed(), 2);
        x.cold(0, true);
        check.due("passed: the hoarse by a cold", x.passed(), 3);
        x.move(2, 3);
        check.due("passed: moved", x.passed(), 9);
        GainsaidOnce some = Check.told("t3;c0 0;h0 1 8;h0 3 8;");
        check.due("passed: by one decree", some.passed(), 1);
        check.due("passed: no corners", Check.told("t3;").passed(), 0);
    }

    private static void hired() {
        GainsaidOnce x = Check.told("t15;c5 0;c9 0;c2 0;");
        check.due("liars all round", x.hired(7, 0, 1, 0), 16);
        check.due("liars all round, the set", x.hired(7, 0, 1, 1), 7);
        check.due("too few clauses", x.hired(3, 0, 1, 0), NONE);
        check.due("too few clauses, the set", x.hired(3, 0, 1, 1), NONE);
        check.due("an empty decree", x.hired(0, 0, 1, 0), NONE);
        check.due("none needed", Check.told(CHAIN).hired(1, 0, 1, 0), 0);
        check.due("none needed, the set", Check.told(CHAIN).hired(1, 0, 1, 1), 0);
        check.due("what 2", x.hired(7, 0, 1, 2), OUTSIDE);
        check.due("what -1", x.hired(7, 0, 1, -1), OUTSIDE);
    }

    private static void hiredBesideHearers() {
        GainsaidOnce one = Check.told("t15;c5 0;c9 0;c2 0;h0 1 8;");
        check.due("beside one", one.hired(7, 0, 1, 0), 11);
        check.due("beside one, the set", one.hired(7, 0, 1, 1), 6);
        // The liar speaks last, so the first hearer's clause comes to the second corner.
        GainsaidOnce behind = Check.told("t7;c4 0;c1 0;h0 1 1;h0 1 2;h1 2 8;");
        check.due("behind the hearers", behind.hired(1, 0, 1, 0), 4);
        check.due("behind the hearers, the set", behind.hired(1, 0, 1, 1), 1);
        // With a liar it is not read again, so the two hoarse ones stay silent.
        GainsaidOnce cold = Check.told("t7;c4 1;h0 1 8;h0 1 8;");
        cold.cry(1, 0, 1);
        check.due("cold: no holding", cold.would(1, 0, 1, 1), 0);
        check.due("cold: liar", cold.hired(1, 0, 1, 0), 4);
        // A hoarse one and the liar at corner 1 strike different clauses: the greater set costs less.
        GainsaidOnce either = Check.told("t7;c9 0;c1 1;h1 6 8;h0 2 8;");
        either.cry(4, 1, 1);
        check.due("either: the dear one", either.would(3, 1, 1, 1), 2);
        check.due("either: how much", either.hired(3, 1, 1, 0), 1);
        check.due("either: the set", either.hired(3, 1, 1, 1), 2);
        // Both with and without him it holds, for nothing: the least set.
        GainsaidOnce free = Check.told("t7;c0 1;h0 1 8;");
        free.cry(1, 0, 1);
        check.due("like ones: the least set", free.hired(1, 0, 1, 1), 0);
        // He alone strikes clause 0 first; what the next corner needs is clause 1.
        GainsaidOnce least = Check.told("t3;c4 0;c1 0;h1 2 8;");
        check.due("strikes the least", least.hired(3, 0, 1, 1), 1);
        check.due("from the other corner", least.hired(3, 1, 1, 0), 4);
        GainsaidOnce kept = Check.told("t3;c4 0;h0 1 8;");
        kept.keepIn(0, true);
        check.due("for who is kept in", kept.hired(1, 0, 1, 0), 4);
    }

    private static void spoilt() {
        GainsaidOnce x = Check.told("t7;c0 0;c0 0;h0 1 1;h1 2 8;");
        check.due("spoilt: how many", x.spoilt(1, 0, 1, 0), 0);
        check.due("spoilt: whom", x.spoilt(1, 0, 1, 1), 0);
        check.due("spoilt by the second", x.spoilt(2, 0, 1, 1), 1);
        check.due("spoilt anyway", x.spoilt(4, 0, 1, 0), 0);
        check.due("spoilt by nobody", x.spoilt(4, 0, 1, 1), NONE);
        x.keepIn(1, true);
        check.due("besides 1: how many", x.spoilt(1, 0, 1, 0), 0);
        check.due("besides 1: whom", x.spoilt(1, 0, 1, 1), 0);
        check.due("besides 1: nobody", x.spoilt(2, 0, 1, 1), NONE);
        GainsaidOnce robust = Check.told("t3;c0 0;c0 0;h0 1 8;h0 1 8;h0 1 8;h1 2 8;");
        check.due("of like ones the least", robust.spoilt(3, 0, 1, 1), 0);
        check.due("no corner left", robust.spoilt(3, 0, 1, 0), 0);
        check.due("one corner left", robust.spoilt(3, 1, 1, 0), 1);
        check.due("one corner left: whom", robust.spoilt(3, 1, 1, 1), 0);
        GainsaidOnce two = Check.told("t3;c0 0;h0 1 8;h0 1 8;");
        check.due("he would but help", two.spoilt(1, 0, 1, 1), NONE);
        check.due("what 2", x.spoilt(1, 0, 1, 2), OUTSIDE);
        check.due("what -1", x.spoilt(1, 0, 1, -1), OUTSIDE);
    }

    private static void odds() {
        GainsaidOnce one = Check.told("t1;c0 0;");
        check.due("odds(0, 100)", one.odds(0, 100), 1000000000);
        check.due("odds(60, 0)", one.odds(60, 0), 1000000000);
        check.due("odds(1, 100)", one.odds(1, 100), 0);
        check.due("odds(1, 50)", one.odds(1, 50), 500000000);
        check.due("odds(4, 99)", one.odds(4, 99), 10);
        check.due("odds(5, 99)", one.odds(5, 99), 0);
        // 1000000000, 30000000, 900000, 27000, 810, 24 (24.3), 0 (0.72).
        check.due("odds(5, 97)", one.odds(5, 97), 24);
        check.due("odds(6, 97)", one.odds(6, 97), 0);
        // Cut at the end alone it would be 3.
        check.due("odds(55, 30)", one.odds(55, 30), 1);
        GainsaidOnce three = Check.told("t1;c0 0;c0 1;c0 0;");
        check.due("three corners, odds(1, 50)", three.odds(1, 50), 125000000);
        check.due("three corners, odds(2, 10)", three.odds(2, 10), 531441000);
        check.due("three corners, odds(60, 1)", three.odds(60, 1), 163807927);
        check.due("no corners", Check.told("t1;").odds(60, 100), 1000000000);
        check.due("odds(61, 1)", one.odds(61, 1), OUTSIDE);
        check.due("odds(-1, 1)", one.odds(-1, 1), OUTSIDE);
        check.due("odds(1, 101)", one.odds(1, 101), OUTSIDE);
        check.due("odds(1, -1)", one.odds(1, -1), OUTSIDE);
    }

    private static void nothingChanges() {
        GainsaidOnce x = Check.told(CHAIN);
        x.cry(3, 0, 1);
        x.see(1, 0, 1);
        int[] before = new int[14];
        for (int what = 0; what < 14; what++) {
            before[what] = x.told(what);
        }
        x.would(7, 1, 1, 0);
        x.bestRound(7, 1, 0);
        x.began(7, 1, 1, -1);
        x.passed();
        x.hired(7, 1, 0, 0);
        x.spoilt(7, 1, 0, 0);
        x.odds(3, 3);
        x.behind(-1);
        x.judge();
        for (int what = 0; what < 14; what++) {
            check.due("nothing changes: told(" + what + ")", x.told(what), before[what]);
        }
    }

    private static void roundRefusals() {
        GainsaidOnce x = Check.told("t5;c0 0;");
        int[][] calls = {{2, 0, 0, 0}, {-1, 0, 0, 0}, {256, 0, 0, 0}, {1, 1, 0, 0}, {1, -1, 0, 0}, {2, 0, 2, 9},
            {1, 1, 2, 9}, {1, 0, 2, 0}, {1, 0, -1, 0}, {1, 0, 0, 9}};
        for (int i = 0; i < calls.length; i++) {
            int[] c = calls[i];
            int due = i < 7 ? UNKNOWN : OUTSIDE;
            check.due("would refuses " + i, x.would(c[0], c[1], c[2], c[3]), due);
            check.due("hired refuses " + i, x.hired(c[0], c[1], c[2], c[3]), due);
            check.due("spoilt refuses " + i, x.spoilt(c[0], c[1], c[2], c[3]), due);
        }
    }
}
