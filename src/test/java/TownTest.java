/** Promises 1 to 7: a new object, the text, the town and what it tells. */
public final class TownTest {
    private static final int NONE = GainsaidOnce.NONE;
    private static final int UNKNOWN = GainsaidOnce.UNKNOWN;
    private static final int OUTSIDE = GainsaidOnce.OUTSIDE;
    private static final int NOT = GainsaidOnce.NOT;
    private static final int FULL = GainsaidOnce.FULL;
    private static final String FULL_RING = "t255;c1 0;c2 1;c3 0;c4 1;c5 0;c6 1;c7 0;c99 1;";
    private static final String NINE = "h0 1 0;h1 2 1;h2 4 2;h3 8 3;h4 16 4;h5 32 5;h6 64 6;h7 128 7;h7 255 8;";

    private static final Check check = new Check("TownTest");

    public static void main(String[] args) {
        constants();
        newObject();
        feedCounts();
        townOfText();
        smallerTown();
        townForgets();
        townFaultChangesNothing();
        emptyText();
        faultsOfWords();
        faultsOfNumbers();
        faultsOfTooMany();
        blanks();
        told();
        hearer();
        corner();
        check.end();
    }

    private static void constants() {
        check.due("NONE", NONE, -1);
        check.due("UNKNOWN", UNKNOWN, -1000000001);
        check.due("OUTSIDE", OUTSIDE, -1000000002);
        check.due("NOT", NOT, -1000000003);
        check.due("FULL", FULL, -1000000004);
    }

    private static void newObject() {
        noTown("a new object", new GainsaidOnce());
    }

    private static void noTown(String of, GainsaidOnce x) {
        for (int what = 0; what <= 13; what++) {
            check.due(of + ": told(" + what + ")", x.told(what), what == 6 ? NONE : 0);
        }
        check.due(of + ": fault", x.fault(), NONE);
        check.due(of + ": hearer", x.hearer(0, 0), UNKNOWN);
        check.due(of + ": corner", x.corner(0, 0), UNKNOWN);
        check.due(of + ": cry", x.cry(0, 0, 0), UNKNOWN);
        check.due(of + ": month", x.month(), NOT);
        check.due(of + ": keepIn", x.keepIn(0, true), UNKNOWN);
        check.due(of + ": move", x.move(0, 0), UNKNOWN);
        check.due(of + ": cold", x.cold(0, true), UNKNOWN);
        check.due(of + ": drift", x.drift(1), NOT);
        check.due(of + ": drift outside", x.drift(0), OUTSIDE);
        check.due(of + ": undo", x.undo(1), NOT);
        check.due(of + ": would", x.would(0, 0, 0, 0), UNKNOWN);
        check.due(of + ": bestRound", x.bestRound(0, 0, 0), NONE);
        check.due(of + ": bestRound of clauses", x.bestRound(1, 0, 0), UNKNOWN);
        check.due(of + ": began", x.began(0, 0, 0, -1), UNKNOWN);
        check.due(of + ": passed", x.passed(), 0);
        check.due(of + ": hired", x.hired(0, 0, 0, 0), UNKNOWN);
        check.due(of + ": spoilt", x.spoilt(0, 0, 0, 0), UNKNOWN);
        check.due(of + ": odds", x.odds(60, 100), 1000000000);
        check.due(of + ": see", x.see(0, 0, 0), UNKNOWN);
        check.due(of + ": behind how many", x.behind(-1), 1);
        check.due(of + ": behind the first", x.behind(0), 0);
        check.due(of + ": behind the second", x.behind(1), NONE);
        check.due(of + ": behind look", x.behind(-2), NONE);
        check.due(of + ": judge", x.judge(), NONE);
        check.due(of + ": tear", x.tear(), 0);
        check.due(of + ": goBack(0)", x.goBack(0), NOT);
        check.due(of + ": goBack(1)", x.goBack(1), NOT);
        check.due(of + ": seed", x.seed(0), 0);
    }

    private static void feedCounts() {
        GainsaidOnce x = new GainsaidOnce();
        check.due("feed(-1)", x.feed(-1), OUTSIDE);
        check.due("feed(256)", x.feed(256), OUTSIDE);
        check.due("feed(0)", x.feed(0), 1);
        check.due("feed(255)", x.feed(255), 2);
        for (int n = 3; n <= 230; n++) {
            check.due("feed " + n, x.feed(32), n);
        }
        check.due("feed 231", x.feed(32), FULL);
        check.due("feed(256) when full", x.feed(256), OUTSIDE);
        check.due("letters", x.told(3), 230);
        check.due("town of letter 0", x.town(), -11);
        check.due("fault of letter 0", x.fault(), 0);
        check.due("feed after town", x.feed(116), 1);
    }

    private static void townOfText() {
        GainsaidOnce x = new GainsaidOnce();
        Check.feed(x, FULL_RING + NINE);
        check.due("town of eight", x.town(), 8);
        check.due("fault of eight", x.fault(), NONE);
        check.due("clauses", x.told(0), 255);
        check.due("corners", x.told(1), 8);
        check.due("hearers", x.told(2), 9);
        check.due("letters", x.told(3), 0);
        check.due("colds", x.told(10), 0xAA);
        check.due("beer of the last", x.corner(7, 0), 99);
        check.due("what the eighth says", x.hearer(7, 2), 7);
        check.due("what the ninth says", x.hearer(8, 2), NONE);
        Check.feed(x, "t5;");
        check.due("town without corners", x.town(), 0);
        check.due("its clauses", x.told(0), 5);
        check.due("its colds", x.told(10), 0);
        check.due("a month there", x.month(), 0);
        Check.feed(x, "t1;c0 0;h0 0 0;c1 1;h1 255 8;h0 1 1;");
        check.due("corners and hearers by turns", x.town(), 2);
        check.due("hearers by turns", x.told(2), 3);
        check.due("who stands at 0", x.corner(0, 2), 5);
        check.due("who stands at 1", x.corner(1, 2), 2);
    }

    private static void smallerTown() {
        GainsaidOnce x = Check.told("t255;c7 1;c8 1;h0 255 8;h0 255 8;h0 255 8;");
        Check.feed(x, "t255;c5 0;h0 255 8;");
        check.due("a smaller town", x.town(), 1);
        check.due("one speaks there", x.would(255, 0, 1, 2), 1);
        check.due("who stands there", x.corner(0, 2), 1);
        check.due("no second hearer", x.hearer(1, 0), UNKNOWN);
        check.due("no second corner", x.corner(1, 0), UNKNOWN);
        check.due("no second one kept in", x.behind(-1), 2);
        check.due("no cold", x.told(10), 0);
    }

    private static GainsaidOnce busy() {
        GainsaidOnce x = Check.told("t7;c1 1;c2 0;h0 7 8;h1 7 8;h1 7 0;");
        x.seed(5);
        x.cry(7, 0, 1);
        x.month();
        x.cry(7, 0, 1);
        x.keep(0);
        x.keep(1);
        x.keepIn(2, true);
        x.move(2, 0);
        x.cold(1, true);
        x.see(7, 0, 1);
        x.write(3);
        x.write(4);
        return x;
    }

    private static void townForgets() {
        GainsaidOnce x = busy();
        Check.feed(x, "t3;c1 0;c1 0;h0 1 1;h0 1 1;h0 1 1;");
        check.due("another town", x.town(), 2);
        for (int what = 4; what <= 13; what++) {
            check.due("another town: told(" + what + ")", x.told(what), what == 6 ? NONE : 0);
        }
        check.due("another town: place of 2", x.hearer(2, 0), 0);
        check.due("another town: goBack(0)", x.goBack(0), NOT);
        check.due("another town: goBack(1)", x.goBack(1), NOT);
        check.due("another town: undo(1)", x.undo(1), NOT);
        check.due("another town: seed stays", x.seed(5), 5);
    }

    private static void townFaultChangesNothing() {
        GainsaidOnce x = busy();
        int[] before = new int[14];
        for (int what = 0; what <= 13; what++) {
            before[what] = x.told(what);
        }
        check.due("busy: hoarse", x.told(8), 7);
        check.due("busy: can be undone", x.told(13), 3);
        Check.feed(x, "t3;c1 0;c1 0;c1 1;h0 1 9;");
        check.due("town at fault", x.town(), -12);
        check.due("its letter", x.fault(), 23);
        for (int what = 0; what <= 13; what++) {
            check.due("town at fault: told(" + what + ")", x.told(what), before[what]);
        }
        check.due("town at fault: place of 2", x.hearer(2, 0), 0);
        check.due("town at fault: pinch of 0", x.hearer(0, 1), 7);
        check.due("town at fault: beer of 1", x.corner(1, 0), 2);
        check.due("town at fault: undo", x.undo(3), 2);
        check.due("town at fault: goBack(1)", x.goBack(1), 1);
        check.due("town at fault: seed", x.seed(0), 5);
        Check.feed(x, "t1;");
        check.due("a good text after a fault", x.town(), 0);
        check.due("its fault", x.fault(), NONE);
        check.due("its clauses", x.told(0), 1);
        Check.feed(x, "t1");
        check.due("the end of a shorter text", x.town(), -11);
        check.due("its letter", x.fault(), 2);
    }

    private static void emptyText() {
        GainsaidOnce x = busy();
        x.seed(0);
        check.due("town of an empty text", x.town(), 0);
        noTown("an empty text", x);
        GainsaidOnce y = busy();
        y.seed(0);
        Check.feed(y, "   ");
        check.due("town of blanks alone", y.town(), 0);
        noTown("blanks alone", y);
        GainsaidOnce z = Check.told("x");
        check.due("fault ahead of an empty text", z.fault(), 0);
        z.town();
        check.due("fault behind an empty text", z.fault(), NONE);
    }

    private static void faulty(String text, int number, int letter) {
        GainsaidOnce x = new GainsaidOnce();
        Check.feed(x, text);
        check.due("town of '" + text + "'", x.town(), -10 - number);
        check.due("fault of '" + text + "'", x.fault(), letter);
        check.due("letters behind '" + text + "'", x.told(3), 0);
    }

    private static void faultsOfWords() {
        faulty("c1 0;", 1, 0);
        faulty("h0 0 0;", 1, 0);
        faulty("  c", 1, 2);
        faulty("x", 1, 0);
        faulty("T1;", 1, 0);
        faulty(";", 1, 0);
        faulty("1", 1, 0);
        faulty("t", 1, 1);
        faulty("t  ", 1, 3);
        faulty("t;", 1, 1);
        faulty("tt", 1, 1);
        faulty("t1", 1, 2);
        faulty("t1 ", 1, 3);
        faulty("t1 2;", 1, 3);
        faulty("t1 2000;", 1, 3);
        faulty("t1t", 1, 2);
        faulty("t1;;", 1, 3);
        faulty("t1;1", 1, 3);
        faulty("t1;x", 1, 3);
        faulty("t1;c10;", 1, 6);
        faulty("t1;c1", 1, 5);
        faulty("t1;c1 0", 1, 7);
        faulty("t1;c1 0 0;", 1, 8);
        faulty("t1;c1-0;", 1, 5);
        faulty("t1;c1 0;h0 1;", 1, 12);
        faulty("t1;c1 0;h0 1 1", 1, 14);
        faulty("t1;c1 0;h0 1 1 1;", 1, 15);
        faulty("t1;c1 0;c", 1, 9);
        faulty("t1;cc", 1, 4);
        faulty("t1" + (char) 9 + ";", 1, 2);
        faulty("t1;" + (char) 255, 1, 3);
    }

    private static void faultsOfNumbers() {
        faulty("t0;", 2, 1);
        faulty("t256;", 2, 1);
        faulty("t 999", 2, 2);
        faulty("t0001;", 2, 1);
        faulty("t1000", 2, 1);
        faulty("t99999999999999999999999999999999;", 2, 1);
        faulty("t4294967297;", 2, 1);
        faulty("t256x", 2, 1);
        faulty("t1;c100 0;", 2, 4);
        faulty("t1;c1 2;", 2, 6);
        faulty("t1;c1 0000;", 2, 6);
        faulty("t1;h0 1 1;", 2, 4);
        faulty("t1;c1 0;h1 1 1;", 2, 9);
        faulty("t1;c1 0;h1 1 1;c1 0;", 2, 9);
        faulty("t1;c1 0;h0 256 1;", 2, 11);
        faulty("t1;c1 0;h0 255 9;", 2, 15);
        faulty("t1;c1 0;h8 999 9;", 2, 9);
        GainsaidOnce x = new GainsaidOnce();
        Check.feed(x, "t001;c099 001;h000 000 008;");
        check.due("three figures", x.town(), 1);
        check.due("three figures: beer", x.corner(0, 0), 99);
    }

    private static void faultsOfTooMany() {
        faulty("t1;t1;", 3, 3);
        faulty("t1; t", 3, 4);
        faulty("t1;c0 0;t", 3, 8);
        faulty(FULL_RING + "c0 0;", 3, FULL_RING.length());
        faulty(FULL_RING + "c", 3, FULL_RING.length());
        faulty(FULL_RING + NINE + "h0 0 0;", 3, FULL_RING.length() + NINE.length());
        faulty(FULL_RING + NINE + " hx", 3, FULL_RING.length() + NINE.length() + 1);
    }

    private static void blanks() {
        GainsaidOnce x = new GainsaidOnce();
        Check.feed(x, "  t  7  ;  c  1   0  ;h 0   3 8 ;   ");
        check.due("blanks anywhere", x.town(), 1);
        check.due("blanks: clauses", x.told(0), 7);
        check.due("blanks: pinch", x.hearer(0, 1), 3);
        StringBuilder full = new StringBuilder("t9;");
        while (full.length() < 230) {
            full.append(' ');
        }
        Check.feed(x, full.toString());
        check.due("blanks to the end", x.town(), 0);
        check.due("blanks to the end: clauses", x.told(0), 9);
    }

    private static void told() {
        GainsaidOnce x = Check.told("t15;c3 0;c4 1;h0 1 2;h1 2 8;h1 12 8;");
        int[] first = {15, 2, 3, 0, 0, 0, NONE, 0, 0, 0, 2, 0, 0, 0};
        for (int what = 0; what < first.length; what++) {
            check.due("told(" + what + ") at first", x.told(what), first[what]);
        }
        x.month();
        // Corner 0: hearer 0 alone, clause 0 struck, clause 2 in; corner 1: hearer 2 alone, clause 2 struck.
        check.due("cry for told", x.cry(1, 0, 1), 0);
        x.keepIn(1, true);
        x.cold(0, true);
        x.see(1, 0, 1);
        x.see(1, 0, 1);
        x.write(0);
        x.feed(32);
        int[] then = {15, 2, 3, 1, 1, 1, 0, 3, 5, 2, 3, 2, 1, 4};
        for (int what = 0; what < then.length; what++) {
            check.due("told(" + what + ") then", x.told(what), then[what]);
        }
        check.due("told(-1)", x.told(-1), OUTSIDE);
        check.due("told(14)", x.told(14), OUTSIDE);
        check.due("told(least)", x.told(Integer.MIN_VALUE), OUTSIDE);
    }

    private static void hearer() {
        GainsaidOnce x = Check.told("t15;c3 0;c4 1;h0 1 2;h1 130 8;h1 12 7;");
        int[][] due = {{0, 1, 2, 0, 0}, {1, 130, NONE, 0, 0}, {1, 12, 7, 0, 0}};
        for (int h = 0; h < 3; h++) {
            for (int what = 0; what < 5; what++) {
                check.due("hearer(" + h + ", " + what + ")", x.hearer(h, what), due[h][what]);
            }
        }
        x.cry(1, 0, 0);
        x.keepIn(2, true);
        x.move(1, 0);
        check.due("hoarse", x.hearer(0, 3), 1);
        check.due("not hoarse", x.hearer(1, 3), 0);
        check.due("kept in", x.hearer(2, 4), 1);
        check.due("not kept in", x.hearer(0, 4), 0);
        check.due("moved", x.hearer(1, 0), 0);
        check.due("hearer(3, 0)", x.hearer(3, 0), UNKNOWN);
        check.due("hearer(-1, 0)", x.hearer(-1, 0), UNKNOWN);
        check.due("hearer(3, 9)", x.hearer(3, 9), UNKNOWN);
        check.due("hearer(0, 5)", x.hearer(0, 5), OUTSIDE);
        check.due("hearer(0, -1)", x.hearer(0, -1), OUTSIDE);
    }

    private static void corner() {
        GainsaidOnce x = Check.told("t15;c3 0;c4 1;h0 1 2;h1 130 8;h1 12 7;");
        int[][] due = {{3, 0, 1}, {4, 1, 6}};
        for (int k = 0; k < 2; k++) {
            for (int what = 0; what < 3; what++) {
                check.due("corner(" + k + ", " + what + ")", x.corner(k, what), due[k][what]);
            }
        }
        x.cold(0, true);
        x.cold(1, false);
        x.move(2, 0);
        check.due("a cold came", x.corner(0, 1), 1);
        check.due("a cold went", x.corner(1, 1), 0);
        check.due("who came", x.corner(0, 2), 5);
        check.due("who went", x.corner(1, 2), 2);
        check.due("corner(2, 0)", x.corner(2, 0), UNKNOWN);
        check.due("corner(-1, 0)", x.corner(-1, 0), UNKNOWN);
        check.due("corner(2, 3)", x.corner(2, 3), UNKNOWN);
        check.due("corner(0, 3)", x.corner(0, 3), OUTSIDE);
        check.due("corner(0, -1)", x.corner(0, -1), OUTSIDE);
    }
}
