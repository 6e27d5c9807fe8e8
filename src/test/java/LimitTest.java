/** Section 3 of the document, sentence by sentence: what is tried, seen, written, drawn, undone and kept, at its bounds. */
public final class LimitTest {
    private static final int NONE = GainsaidOnce.NONE;
    private static final int UNKNOWN = GainsaidOnce.UNKNOWN;
    private static final int OUTSIDE = GainsaidOnce.OUTSIDE;
    private static final int NOT = GainsaidOnce.NOT;
    private static final int FULL = GainsaidOnce.FULL;
    private static final int BILLION = 1000000000;
    private static final String NINE = "t1;c0 0;" + "h0 1 8;".repeat(9);

    private static final Check check = new Check("LimitTest");

    public static void main(String[] args) {
        twoKeptInAtMost();
        keptInWhoAreNotYet();
        bestRoundAtTheLastCorner();
        bestRoundWithoutAny();
        beganCounts();
        beganPastTheLast();
        beganWithoutAny();
        beganOfEverySet();
        passedByNoneAndAll();
        passedAtOneCorner();
        hiredByNoneAndAll();
        hiredForLeastBeer();
        hiredForNothing();
        hiredWithoutAny();
        liarIsNeverHoarse();
        spoiltByNobody();
        spoiltByTheLast();
        spoiltAtAllCorners();
        sixSeenAtMost();
        spokeNoneToNine();
        behindTwoAtMost();
        behindTheIth();
        lookWithoutAny();
        lookAtTheLast();
        oddsOfMonths();
        oddsOfAHundred();
        oddsAreCut();
        twentyInTheBook();
        whatTheBookTells();
        wrongFirstAndLast();
        seedAtItsBounds();
        aDraw();
        monthsByDraws();
        drawsWithoutCorners();
        thirtyCanBeUndone();
        undoAsManyAsThereAre();
        undoSinceTextOrImage();
        undoOfEachDeed();
        undoOfMonthsByDraws();
        imagesZeroAndOne();
        check.end();
    }

    private static void best(String what, GainsaidOnce x, int decree, int must, int start, int set) {
        check.due(what + ": corner and way", x.bestRound(decree, must, 0), start);
        check.due(what + ": the set", x.bestRound(decree, must, 1), set);
    }

    /** So many corners with two hearers each: the later ones, counted from the ninth down, must be kept in. */
    private static String pairs(int n) {
        StringBuilder text = new StringBuilder("t63;" + "c0 0;".repeat(n));
        for (int k = 0; k < n; k++) {
            text.append("h" + k + " " + (1 << k) + " " + (k + 3) + ";");
        }
        text.append("h0 0 8;".repeat(9 - 2 * n));
        for (int k = 0; k < n; k++) {
            text.append("h" + k + " " + (1 << k) + " 8;");
        }
        return text.toString();
    }

    /** "whom to KEEP IN besides (2 HEARERS at most ..)". */
    private static void twoKeptInAtMost() {
        best("none needed", Check.told("t63;c0 0;h0 1 3;"), 1, 8, 0, 0);
        best("one needed", Check.told(pairs(1)), 1, 8, 0, 256);
        best("two needed", Check.told(pairs(2)), 3, 24, 0, 384);
        best("three needed", Check.told(pairs(3)), 7, 56, NONE, NONE);
    }

    /** "(.. who are not yet)": who is kept in already is not counted, nor told. */
    private static void keptInWhoAreNotYet() {
        GainsaidOnce x = Check.told(pairs(3));
        x.keepIn(8, true);
        best("two besides one", x, 7, 56, 0, 192);
        x.keepIn(7, true);
        best("one besides two", x, 7, 56, 0, 64);
        x.keepIn(6, true);
        best("none besides three", x, 7, 56, 0, 0);
        x.keepIn(0, true);
        best("one too many already", x, 7, 56, NONE, NONE);
    }

    /** "2 times the CORNER and the way": 14 and 15 are the greatest. */
    private static void bestRoundAtTheLastCorner() {
        StringBuilder up = new StringBuilder("t255;" + "c0 0;".repeat(8));
        StringBuilder down = new StringBuilder(up);
        for (int k = 0; k < 8; k++) {
            up.append("h" + k + " " + (1 << k) + " " + (k + 1) % 8 + ";");
            down.append("h" + k + " " + (1 << k) + " " + (k + 7) % 8 + ";");
        }
        for (int k = 0; k < 8; k++) {
            best("up from " + k, Check.told(up.toString()), 1 << k, 1 << k, 2 * k + 1, 0);
            best("down from " + k, Check.told(down.toString()), 1 << k, 1 << k, 2 * k, 0);
        }
        best("down ahead of up", Check.told("t3;c0 0;h0 1 8;"), 1, 0, 0, 0);
    }

    /** NONE, if there is no such ROUND. */
    private static void bestRoundWithoutAny() {
        best("no corners", Check.told("t3;"), 3, 0, NONE, NONE);
        best("no town", new GainsaidOnce(), 0, 0, NONE, NONE);
        best("no hearers", Check.told("t3;c0 0;"), 3, 3, NONE, NONE);
        best("what is struck", Check.told("t3;c0 0;h0 1 8;"), 3, 1, NONE, NONE);
        best("an empty decree", Check.told("t3;c0 0;h0 1 8;"), 0, 0, NONE, NONE);
        best("no clause must be in it", Check.told("t3;c0 0;h0 3 8;"), 1, 0, 0, 0);
        best("all that is left", Check.told("t3;c0 0;h0 3 8;"), 3, 2, 0, 0);
    }

    /** "how many; the i-th (rising); SURE": the first, the last, and those beside them. */
    private static void beganCounts() {
        // Clause 0 is struck wherever it is: of each two decrees comes the even one.
        GainsaidOnce x = Check.told("t255;c0 0;h0 1 8;");
        for (int law = 0; law < 256; law++) {
            int count = law % 2 == 0 ? 2 : 0;
            check.due("began " + law + ": how many", x.began(law, 0, 1, -1), count);
        }
        check.due("the first", x.began(170, 0, 0, 0), 170);
        check.due("the last", x.began(170, 0, 0, 1), 171);
        check.due("behind the last", x.began(170, 0, 0, 2), NONE);
        check.due("far behind it", x.began(170, 0, 0, Integer.MAX_VALUE), NONE);
        check.due("-3", x.began(170, 0, 0, -3), NONE);
        check.due("far below", x.began(170, 0, 0, Integer.MIN_VALUE), NONE);
        check.due("sure", x.began(170, 0, 0, -2), 170);
        check.due("sure of nothing", x.began(0, 0, 0, -2), 0);
        check.due("sure of all but one", x.began(254, 0, 0, -2), 254);
    }

    /** "else the i-th; NONE": there are no more than fit now, though more did for the law asked ahead of it. */
    private static void beganPastTheLast() {
        // One at each corner strikes the least clause, so that nothing is left of eight.
        GainsaidOnce all = Check.told("t255;" + "c0 0;".repeat(8) + "h0 255 8;h1 255 8;h2 255 8;h3 255 8;"
            + "h4 255 8;h5 255 8;h6 255 8;h7 255 8;");
        check.due("all come out as none", all.began(0, 0, 1, -1), 256);
        check.due("the last of all", all.began(0, 0, 1, 255), 255);
        all.keepIn(0, true);
        check.due("seven leave one clause of all eight", all.began(0, 0, 1, -1), 255);
        for (int i = 255; i <= 260; i++) {
            check.due("as none, the " + i, all.began(0, 0, 1, i), NONE);
        }
        check.due("as the last clause: the first and only", all.began(128, 0, 1, 0), 255);
        for (int i = 1; i <= 260; i++) {
            check.due("as the last clause, the " + i, all.began(128, 0, 1, i), NONE);
        }
    }

    /** "SURE: (0 without any)". */
    private static void beganWithoutAny() {
        GainsaidOnce x = Check.told("t255;c0 0;h0 1 8;");
        check.due("how many", x.began(255, 0, 1, -1), 0);
        check.due("the first", x.began(255, 0, 1, 0), NONE);
        check.due("sure", x.began(255, 0, 1, -2), 0);
    }

    /** "DECREES (each SET of CLAUSES of U)": none and all of U among them, others not. */
    private static void beganOfEverySet() {
        GainsaidOnce x = Check.told("t200;c0 0;");
        int count = 0;
        for (int law = 0; law < 256; law++) {
            boolean isOne = (law | 200) == 200;
            count += isOne ? 1 : 0;
            check.due("began of " + law, x.began(law, 0, 0, 0), isOne ? law : UNKNOWN);
        }
        check.due("sets of three clauses", count, 8);
        // Both hearers speak of any clause, so only the empty decree stays, and its opposite comes of all.
        GainsaidOnce y = Check.told("t200;c0 0;h0 255 8;h0 255 8;");
        check.due("none comes of all, and of none", y.began(0, 0, 0, -1), 2);
        check.due("of none", y.began(0, 0, 0, 0), 0);
        check.due("of all", y.began(0, 0, 0, 1), 200);
        check.due("all comes of no decree", y.began(200, 0, 0, -1), 0);
    }

    /** "PASSED: CORNERS at which some DECREE of U would HOLD". */
    private static void passedByNoneAndAll() {
        check.due("no town", new GainsaidOnce().passed(), 0);
        check.due("no corners", Check.told("t1;").passed(), 0);
        check.due("no hearers", Check.told("t255;" + "c0 0;".repeat(8)).passed(), 0);
        StringBuilder text = new StringBuilder("t128;" + "c0 0;".repeat(8));
        for (int k = 0; k < 8; k++) {
            text.append("h" + k + " 128 8;");
        }
        GainsaidOnce x = Check.told(text.toString());
        check.due("one at each", x.passed(), 255);
        x.keepIn(7, true);
        check.due("but for the last", x.passed(), 127);
        x.cry(128, 0, 1);
        check.due("and the first, who is hoarse", x.passed(), 126);
        x.cold(0, true);
        check.due("a cold there", x.passed(), 127);
    }

    private static void passedAtOneCorner() {
        for (int n = 0; n <= 9; n++) {
            check.due(n + " alike", Check.told("t1;c0 0;" + "h0 1 8;".repeat(n)).passed(), n % 2);
        }
        check.due("two, of whom one can be pinched alone", Check.told("t129;c0 0;h0 1 8;h0 129 8;").passed(), 1);
        check.due("pinched by no clause of U", Check.told("t128;c0 0;h0 127 8;").passed(), 0);
    }

    private static void hire(String what, GainsaidOnce x, int decree, int much, int set) {
        check.due(what + ": how much", x.hired(decree, 0, 1, 0), much);
        check.due(what + ": the set", x.hired(decree, 0, 1, 1), set);
    }

    /** "LIARS at CORNERS (one at most at each ..)": from none to all eight. */
    private static void hiredByNoneAndAll() {
        for (int n = 1; n <= 8; n++) {
            GainsaidOnce x = Check.told("t255;" + "c99 0;".repeat(n));
            hire(n + " liars", x, 255, 99 * n, (1 << n) - 1);
            hire(n + " liars, just clauses enough", x, (1 << n) - 1, 99 * n, (1 << n) - 1);
            hire(n + " liars, a clause too few", x, (1 << n) / 2 - 1, NONE, NONE);
        }
        hire("no liar", Check.told("t1;c99 0;h0 1 8;"), 1, 0, 0);
        hire("no liar beside three", Check.told("t1;c99 0;" + "h0 1 8;".repeat(3)), 1, 0, 0);
        for (int n = 2; n <= 8; n += 2) {
            hire("a liar beside " + n, Check.told("t1;c99 0;" + "h0 1 8;".repeat(n)), 1, 99, 1);
        }
    }

    /**
     * "for least BEER together; of like ones the least SET of CORNERS": from corner 1 up either a liar there strikes
     * clause 0, and a hearer at 0 speaks, or a hoarse one strikes clause 1, and a liar at 0 is needed.
     */
    private static void hiredForLeastBeer() {
        int[] beers = {0, 1, 2, 50, 98, 99};
        for (int a : beers) {
            for (int b : beers) {
                GainsaidOnce x = Check.told("t7;c" + a + " 0;c" + b + " 1;h1 6 8;h0 2 8;");
                x.cry(4, 1, 1);
                check.due("beer " + a + " or " + b + ": how much", x.hired(3, 1, 1, 0), Math.min(a, b));
                check.due("beer " + a + " or " + b + ": the set", x.hired(3, 1, 1, 1), a <= b ? 1 : 2);
            }
        }
    }

    private static void hiredForNothing() {
        hire("beer for nothing", Check.told("t3;c0 0;c0 0;"), 3, 0, 3);
        hire("none is less than one for nothing", Check.told("t1;c0 1;h0 1 8;"), 1, 0, 0);
        hire("beside two", Check.told("t7;c0 0;c0 0;h0 1 1;h0 1 8;h1 2 8;"), 1, 0, 1);
    }

    private static void hiredWithoutAny() {
        hire("an empty decree", Check.told("t1;c0 0;h0 1 8;"), 0, NONE, NONE);
        check.due("no corners", Check.told("t1;").hired(1, 0, 1, 0), UNKNOWN);
        // The one hearer must speak alone, and the liar's clause is his.
        hire("the second corner has nothing left", Check.told("t1;c0 0;c0 0;h0 1 8;"), 1, NONE, NONE);
    }

    /** The LIAR is "never HOARSE", nor is he one of the HEARERS. */
    private static void liarIsNeverHoarse() {
        GainsaidOnce x = Check.told("t3;c4 0;");
        for (int times = 0; times < 3; times++) {
            hire("again", x, 1, 4, 1);
            check.due("nobody is hoarse", x.told(8), 0);
            x.cry(1, 0, 1);
        }
    }

    private static void spoil(String what, GainsaidOnce x, int decree, int many, int whom) {
        check.due(what + ": how many", x.spoilt(decree, 0, 1, 0), many);
        check.due(what + ": whom", x.spoilt(decree, 0, 1, 1), whom);
    }

    /** "of like ones nobody first, then the least; NONE: nobody". */
    private static void spoiltByNobody() {
        spoil("no hearers", Check.told("t1;c0 0;"), 1, 0, NONE);
        spoil("two, who spoil it themselves", Check.told("t1;c0 0;h0 1 8;h0 1 8;"), 1, 0, NONE);
        spoil("one who is not pinched", Check.told("t3;c0 0;h0 2 8;"), 1, 0, NONE);
        spoil("one", Check.told("t1;c0 0;h0 1 8;"), 1, 0, 0);
        spoil("three", Check.told("t1;c0 0;" + "h0 1 8;".repeat(3)), 1, 0, 0);
        GainsaidOnce x = Check.told("t1;c0 0;" + "h0 1 8;".repeat(3));
        x.keepIn(0, true);
        x.keepIn(1, true);
        spoil("one who is not yet", x, 1, 0, 2);
        x.keepIn(2, true);
        spoil("all are kept in", x, 1, 0, NONE);
    }

    /** HEARER 8 is the last. */
    private static void spoiltByTheLast() {
        spoil("the ninth", Check.told("t3;c0 0;" + "h0 2 8;".repeat(8) + "h0 1 8;"), 1, 0, 8);
        spoil("the least of nine", Check.told(NINE), 1, 0, 0);
    }

    private static void spoiltAtAllCorners() {
        StringBuilder text = new StringBuilder("t255;" + "c0 0;".repeat(8));
        for (int k = 0; k < 8; k++) {
            text.append("h" + k + " " + (1 << k) + " 8;");
        }
        GainsaidOnce x = Check.told(text.toString());
        check.due("it holds at eight", x.would(255, 0, 1, 1), 255);
        spoil("seven are left", x, 255, 7, 0);
        x.keepIn(0, true);
        spoil("six are left", x, 255, 6, 1);
    }

    /** "SEEN (6 at most)". */
    private static void sixSeenAtMost() {
        GainsaidOnce x = Check.told("t129;c0 0;c0 0;");
        for (int n = 1; n <= 6; n++) {
            check.due("seen " + n, x.see(n % 2 == 0 ? 0 : 129, n % 2, 0), n);
            check.due("told " + n, x.told(11), n);
        }
        check.due("a seventh", x.see(1, 0, 0), FULL);
        check.due("six still", x.told(11), 6);
        check.due("and they still are so", x.behind(-1), 1);
        check.due("torn", x.tear(), 6);
        check.due("a first again", x.see(1, 0, 0), 1);
        GainsaidOnce y = Check.told("t1;c0 0;c0 0;h1 1 8;");
        for (int n = 1; n <= 6; n++) {
            y.see(1, 0, 0);
        }
        y.tear();
        y.see(1, 1, 1);
        check.due("what was torn does not count", y.behind(-1), 1);
        check.due("what is seen then does", y.behind(0), 0);
    }

    /** "and so many SPOKE (0 .. 9)": nine of nine, and each number below. */
    private static void spokeNoneToNine() {
        for (int spoke = -1; spoke <= 10; spoke++) {
            GainsaidOnce x = Check.told(NINE);
            boolean isOne = spoke >= 0 && spoke <= 9;
            check.due("spoke " + spoke, x.see(1, 0, spoke), isOne ? 1 : OUTSIDE);
            int sets = !isOne ? 46 : spoke == 9 ? 1 : spoke == 8 ? 9 : spoke == 7 ? 36 : 0;
            check.due("sets behind " + spoke, x.behind(-1), sets);
        }
    }

    /** "SETS of HEARERS, 2 at most who are not yet". */
    private static void behindTwoAtMost() {
        for (int n = 0; n <= 4; n++) {
            GainsaidOnce x = Check.told("t1;c0 0;" + "h0 1 8;".repeat(n));
            x.see(1, 0, 0);
            check.due(n + " must be kept in: how many", x.behind(-1), n <= 2 ? 1 : 0);
            check.due(n + " must be kept in: the first", x.behind(0), n <= 2 ? (1 << n) - 1 : NONE);
            if (n > 2) {
                x.keepIn(0, true);
                check.due(n + " less one: the first", x.behind(0), n == 3 ? 6 : NONE);
                x.keepIn(1, true);
                check.due(n + " less two: the first", x.behind(0), n == 3 ? 4 : 12);
            }
        }
    }

    /** "how many; the i-th (fewest first, then rising)": the first, the last, and those beside them. */
    private static void behindTheIth() {
        GainsaidOnce x = Check.told(NINE);
        check.due("how many", x.behind(-1), 46);
        check.due("the first", x.behind(0), 0);
        check.due("the first of one", x.behind(1), 1);
        check.due("the last of one", x.behind(9), 256);
        check.due("the first of two", x.behind(10), 3);
        check.due("the last", x.behind(45), 384);
        check.due("behind the last", x.behind(46), NONE);
        check.due("-3", x.behind(-3), NONE);
        x.see(1, 0, 7);
        check.due("of two alone: the first", x.behind(0), 3);
        check.due("of two alone: the last", x.behind(35), 384);
        for (int i = 36; i <= 50; i++) {
            check.due("of two alone: behind the last, " + i, x.behind(i), NONE);
        }
        GainsaidOnce none = new GainsaidOnce();
        check.due("no town: how many", none.behind(-1), 1);
        check.due("no town: the first", none.behind(0), 0);
        check.due("no town: the second", none.behind(1), NONE);
    }

    /** "LOOK: .. NONE: none parts them." */
    private static void lookWithoutAny() {
        check.due("no town", new GainsaidOnce().behind(-2), NONE);
        check.due("no hearers", Check.told("t1;c0 0;").behind(-2), NONE);
        GainsaidOnce x = Check.told("t1;c0 0;h0 1 8;");
        check.due("in it or not", x.behind(-2), 0);
        x.see(1, 0, 1);
        check.due("one set", x.behind(-2), NONE);
        x.see(1, 0, 0);
        check.due("no set", x.behind(-1), 0);
        check.due("no set parted", x.behind(-2), NONE);
    }

    /** "the greatest part is least; of like ones the least": the ninth, if he alone parts them. */
    private static void lookAtTheLast() {
        GainsaidOnce x = Check.told("t3;c0 0;" + "h0 1 8;".repeat(8) + "h0 2 8;");
        check.due("of like ones the least", x.behind(-2), 0);
        x.see(1, 0, 8);
        check.due("the ninth or nobody", x.behind(-1), 2);
        check.due("the ninth parts them", x.behind(-2), 8);
        // {0, 1} .. {0, 8} would leave seven of eight; without 0 kept in there is no such.
        GainsaidOnce y = Check.told("t7;c0 0;h0 1 8;h0 3 8;h0 3 8;h0 4 8;");
        y.see(2, 0, 1);
        // 1 or 2, alone or with 0 or 3: 1 halves the six, 0 and 3 leave four.
        check.due("six sets", y.behind(-1), 6);
        check.due("the even halves", y.behind(-2), 1);
    }

    /** "in n months (0 .. 60)". */
    private static void oddsOfMonths() {
        GainsaidOnce x = Check.told("t1;c0 0;");
        long left = BILLION;
        for (int n = 0; n <= 60; n++) {
            check.due("odds(" + n + ", 1)", x.odds(n, 1), left);
            check.due("odds(" + n + ", 0)", x.odds(n, 0), BILLION);
            check.due("odds(" + n + ", 100)", x.odds(n, 100), n == 0 ? BILLION : 0);
            left = left * 99 / 100;
        }
        check.due("odds(-1, 1)", x.odds(-1, 1), OUTSIDE);
        check.due("odds(61, 1)", x.odds(61, 1), OUTSIDE);
    }

    /** "each by q of a hundred (0 .. 100)". */
    private static void oddsOfAHundred() {
        GainsaidOnce x = Check.told("t1;c0 1;");
        for (int q = -1; q <= 101; q++) {
            check.due("odds(1, " + q + ")", x.odds(1, q), q < 0 || q > 100 ? OUTSIDE : 10000000L * (100 - q));
            check.due("odds(0, " + q + ")", x.odds(0, q), q < 0 || q > 100 ? OUTSIDE : BILLION);
        }
    }

    /** "a BILLION times (100 less q) / 100 for each and month (cut)": each CORNER, none and eight. */
    private static void oddsAreCut() {
        for (int corners = 0; corners <= 8; corners++) {
            GainsaidOnce x = Check.told("t1;" + "c0 0;".repeat(corners));
            for (int q : new int[] {0, 1, 7, 50, 97, 99, 100}) {
                long left = BILLION;
                for (int i = 0; i < 3 * corners; i++) {
                    left = left * (100 - q) / 100;
                }
                check.due(corners + " corners, odds(3, " + q + ")", x.odds(3, q), left);
            }
        }
        check.due("no town", new GainsaidOnce().odds(60, 100), BILLION);
    }

    /** "THE BOOK (20 at most)". */
    private static void twentyInTheBook() {
        GainsaidOnce x = Check.told("t7;c0 0;");
        x.cry(7, 0, 0);
        for (int n = 1; n <= 20; n++) {
            check.due("entry " + n, x.write(7), n);
            check.due("told " + n, x.told(12), n);
        }
        check.due("entry 21", x.write(6), FULL);
        check.due("twenty still", x.told(12), 20);
        check.due("all right still", x.judge(), NONE);
        check.due("torn", x.tear(), 20);
        check.due("a first again", x.write(6), 1);
    }

    /** "tells DECREES that came out (0 .. 255)": of U or not. */
    private static void whatTheBookTells() {
        for (int law = -1; law <= 256; law++) {
            GainsaidOnce x = Check.told("t255;c0 0;");
            x.cry(law & 255, 0, 0);
            boolean isOne = law >= 0 && law <= 255;
            check.due("write(" + law + ")", x.write(law), isOne ? 1 : OUTSIDE);
            check.due("judged", x.judge(), NONE);
        }
        check.due("no clause of U", Check.told("t1;").write(254), 1);
        check.due("no town", new GainsaidOnce().write(255), 1);
    }

    /** "WRONG: the first that is otherwise; NONE": entry 0 to entry 19. */
    private static void wrongFirstAndLast() {
        for (int wrong = 0; wrong <= 20; wrong++) {
            GainsaidOnce x = Check.told("t7;c0 0;");
            x.cry(0, 0, 0);
            for (int n = 0; n < 20; n++) {
                x.write(n < wrong ? 0 : 255);
            }
            check.due("wrong from " + wrong, x.judge(), wrong == 20 ? NONE : wrong);
        }
        check.due("an empty book", Check.told("t7;c0 0;").judge(), NONE);
        GainsaidOnce none = Check.told("t7;c0 0;");
        none.write(0);
        check.due("no round came out so", none.judge(), 0);
    }

    /** "THE SEED (0 at first ..)", "v (0 .. 2147483647)". */
    private static void seedAtItsBounds() {
        GainsaidOnce x = new GainsaidOnce();
        int[] seeds = {0, 1, 65535, 65536, 2147483646, 2147483647};
        int was = 0;
        for (int v : seeds) {
            check.due("seed(" + v + ")", x.seed(v), was);
            was = v;
        }
        check.due("seed(-1)", x.seed(-1), OUTSIDE);
        check.due("the greatest stays", x.seed(0), 2147483647);
    }

    /** "each DRAW it becomes it times 1103515245 and 12345, left over by 2 to the 31". */
    private static void aDraw() {
        for (int v : new int[] {0, 1, 65535, 65536, 1073741824, 2147483646, 2147483647}) {
            GainsaidOnce x = Check.told("t255;c0 0;c0 0;c0 0;h0 15 4;h1 240 0;h2 85 8;");
            GainsaidOnce y = Check.told("t255;c0 0;c0 0;c0 0;h0 15 4;h1 240 0;h2 85 8;");
            x.seed(v);
            long[] drawn = new long[3];
            long seed = v;
            for (int i = 0; i < 3; i++) {
                seed = (seed * 1103515245L + 12345L) % 2147483648L;
                drawn[i] = seed / 65536;
            }
            int law = y.cry((int) (drawn[0] % 256), (int) (drawn[1] % 3), (int) (drawn[2] % 2));
            check.due("drift from " + v, x.drift(1), law);
            check.due("it holds there", x.told(7), y.told(7));
            check.due("seed behind " + v, x.seed(0), seed);
        }
        // From 0: 12345, 1406932606, 654583775.
        GainsaidOnce first = Check.told("t255;c0 0;c0 0;c0 0;");
        check.due("a decree of 0 / 65536", first.drift(1), 0);
        check.due("the third number from 0", first.seed(0), 654583775);
    }

    /** "n months BY DRAWS (1 .. 20)": in each a ROUND, then the MONTH. */
    private static void monthsByDraws() {
        for (int n = 0; n <= 21; n++) {
            GainsaidOnce x = Check.told("t255;c0 0;c0 1;h0 15 4;h1 240 0;");
            boolean isOne = n >= 1 && n <= 20;
            int law = x.drift(n);
            check.due("law by " + n, law, isOne ? x.told(6) : OUTSIDE);
            check.due("rounds by " + n, x.told(4), isOne ? n : 0);
            check.due("months by " + n, x.told(5), isOne ? n : 0);
            check.due("hoarse by " + n, x.told(8), 0);
            check.due("undone by " + n, x.told(13), isOne ? n : 0);
        }
    }

    /** "in each a ROUND (if there are CORNERS)"; "the LAW (NONE)". */
    private static void drawsWithoutCorners() {
        GainsaidOnce x = Check.told("t255;");
        x.seed(2147483647);
        check.due("no law", x.drift(20), NONE);
        check.due("no rounds", x.told(4), 0);
        check.due("months", x.told(5), 20);
        check.due("nothing was drawn", x.seed(0), 2147483647);
        check.due("each month can be undone", x.told(13), 20);
    }

    private static GainsaidOnce months(int n) {
        GainsaidOnce x = Check.told("t1;c0 0;");
        for (int i = 0; i < n; i++) {
            x.month();
        }
        return x;
    }

    /** "(30 at most are kept)". */
    private static void thirtyCanBeUndone() {
        for (int n : new int[] {0, 1, 28, 29, 30, 31, 32, 60, 61, 100}) {
            GainsaidOnce x = months(n);
            int kept = Math.min(n, 30);
            check.due(n + " deeds", x.told(13), kept);
            check.due(n + " deeds: 30 of them", x.undo(30), n < 30 ? NOT : 0);
            check.due(n + " deeds: months left", x.told(5), n < 30 ? n : n - 30);
            check.due(n + " deeds: deeds left", x.told(13), n < 30 ? n : 0);
            check.due(n + " deeds: 31 of them", x.undo(31), OUTSIDE);
            if (n >= 30) {
                check.due(n + " deeds: no further", x.undo(1), NOT);
                check.due(n + " deeds: months stay", x.told(5), n - 30);
            }
        }
    }

    /** "The n latest (1 .. 30) are undone .. NOT: not so many." */
    private static void undoAsManyAsThereAre() {
        for (int n = 1; n <= 30; n++) {
            GainsaidOnce all = months(n);
            check.due("one more than " + n, all.undo(n + 1), n == 30 ? OUTSIDE : NOT);
            check.due("all of " + n, all.undo(n), 0);
            check.due("no months", all.told(5), 0);
            check.due("no more", all.undo(1), NOT);
            GainsaidOnce allButOne = months(35);
            check.due(n + " of 35", allButOne.undo(n), 0);
            check.due(n + " of 35: months left", allButOne.told(5), 35 - n);
            check.due(n + " of 35: deeds left", allButOne.told(13), 30 - n);
            allButOne.month();
            check.due(n + " of 35 and one: deeds left", allButOne.told(13), 31 - n);
            check.due(n + " of 35 and one: undone", allButOne.undo(31 - n), 0);
            check.due(n + " of 35 and one: months left", allButOne.told(5), 5);
        }
    }

    /** "since the text or IMAGE". */
    private static void undoSinceTextOrImage() {
        GainsaidOnce x = months(3);
        Check.feed(x, "t1;");
        x.town();
        check.due("since the text", x.undo(1), NOT);
        x.month();
        check.due("keep", x.keep(0), 1);
        check.due("since the image", x.undo(1), NOT);
        check.due("months stay", x.told(5), 1);
        x.month();
        check.due("one since", x.told(13), 1);
        check.due("goBack", x.goBack(0), 1);
        check.due("since it was gone back to", x.undo(1), NOT);
        x.month();
        check.due("one since that", x.undo(1), 0);
        check.due("and no further", x.told(5), 1);
        Check.feed(x, "x");
        x.month();
        x.town();
        check.due("a text at fault forgets nothing", x.told(13), 1);
    }

    /** "the latest deeds (cry(), month(), keepIn(), move(), cold() ..)", though they change nothing; no other calls. */
    private static void undoOfEachDeed() {
        GainsaidOnce x = Check.told("t3;c0 0;c0 1;h0 1 1;h1 2 8;");
        x.cry(1, 0, 1);
        check.due("cry", x.told(13), 1);
        x.month();
        check.due("month", x.told(13), 2);
        x.keepIn(0, true);
        check.due("keepIn", x.told(13), 3);
        x.keepIn(0, true);
        check.due("keepIn again", x.told(13), 4);
        x.move(1, 0);
        check.due("move", x.told(13), 5);
        x.move(1, 0);
        check.due("move again", x.told(13), 6);
        x.cold(1, false);
        check.due("cold", x.told(13), 7);
        x.cold(1, false);
        check.due("cold again", x.told(13), 8);
        x.see(1, 0, 0);
        x.write(1);
        x.tear();
        x.seed(1);
        x.would(1, 0, 0, 0);
        x.feed('t');
        check.due("no deeds", x.told(13), 8);
        int[][] due = {{1, 1, 0, 1, 0}, {1, 1, 0, 1, 2}, {1, 1, 0, 1, 2}, {1, 1, 1, 1, 2}, {1, 1, 1, 1, 2},
            {1, 1, 1, 0, 2}, {1, 0, 1, 0, 2}, {0, 0, 1, 0, 2}};
        for (int n = 0; n < due.length; n++) {
            check.due("undone " + n, x.undo(1), due[n][0]);
            check.due("undone " + n + ": months", x.told(5), due[n][1]);
            check.due("undone " + n + ": place", x.hearer(1, 0), due[n][2]);
            check.due("undone " + n + ": kept in", x.told(9), due[n][3]);
            check.due("undone " + n + ": colds", x.told(10), due[n][4]);
        }
        check.due("no law", x.told(6), NONE);
        check.due("nobody hoarse", x.told(8), 0);
    }

    /** "each month BY DRAWS" is a deed; "THE SEED stays". */
    private static void undoOfMonthsByDraws() {
        GainsaidOnce x = Check.told("t255;c0 0;h0 15 4;");
        x.drift(20);
        x.drift(9);
        check.due("29 months", x.told(13), 29);
        x.drift(1);
        check.due("30 months", x.told(13), 30);
        x.drift(1);
        check.due("31 months", x.told(13), 30);
        int seed = x.seed(5);
        x.seed(seed);
        check.due("30 undone", x.undo(30), 1);
        check.due("a month is left", x.told(5), 1);
        check.due("the seed stays", x.seed(0), seed);
    }

    /** "IMAGES 0, 1 keep all of section 2, COLDS, THE SEED." */
    private static void imagesZeroAndOne() {
        GainsaidOnce x = Check.told("t7;c0 0;c0 1;h0 1 8;h1 2 8;");
        check.due("keep(-1)", x.keep(-1), UNKNOWN);
        check.due("keep(2)", x.keep(2), UNKNOWN);
        check.due("goBack(0) ahead of it", x.goBack(0), NOT);
        check.due("keep(0)", x.keep(0), 1);
        check.due("goBack(1) ahead of it", x.goBack(1), NOT);
        x.seed(2147483647);
        x.cry(1, 0, 1);
        x.keepIn(1, true);
        x.move(1, 0);
        x.cold(0, true);
        x.month();
        x.cry(1, 0, 1);
        check.due("keep(1)", x.keep(1), 1);
        int[] first = {0, 0, NONE, 0, 0, 0, 2};
        int[] second = {2, 1, 0, 1, 1, 2, 3};
        for (int i : new int[] {0, 1, 0, 0, 1}) {
            check.due("goBack(" + i + ")", x.goBack(i), 1);
            for (int what = 4; what <= 10; what++) {
                check.due("image " + i + ": told(" + what + ")", x.told(what), i == 0 ? first[what - 4] : second[what - 4]);
            }
            check.due("image " + i + ": place", x.hearer(1, 0), i == 0 ? 1 : 0);
            check.due("image " + i + ": seed", x.seed(9), i == 0 ? 0 : 2147483647);
        }
        check.due("goBack(-1)", x.goBack(-1), UNKNOWN);
        check.due("goBack(2)", x.goBack(2), UNKNOWN);
    }
}
