/** Section 1 of the document, sentence by sentence: each number at its bounds and beside them, each fault at its letter. */
public final class TextEdgeTest {
    private static final int NONE = GainsaidOnce.NONE;
    private static final int UNKNOWN = GainsaidOnce.UNKNOWN;
    private static final int NOT = GainsaidOnce.NOT;
    private static final int FULL = GainsaidOnce.FULL;
    private static final int LETTERS = 230;

    private static final Check check = new Check("TextEdgeTest");

    public static void main(String[] args) {
        lettersAtMost();
        everyLetter();
        clausesThereAre();
        clausesFirst();
        clausesOnce();
        cornersAtMost();
        beer();
        coldAtFirst();
        hearersAtMost();
        cornerToldAhead();
        pinchedBy();
        saysInstead();
        figures();
        aWordIsOneLetter();
        blanksAnywhere();
        blanksAlone();
        blanksWithinNumbers();
        twoNumbersNeedABlank();
        onlyThirtyTwoIsABlank();
        faultOneCannotStand();
        faultTwoAtItsFirst();
        faultThreeAtIt();
        theFirstLetterAtFault();
        ofTheseTheLeast();
        theEndAtTheLength();
        emptyText();
        townBeginsAnew();
        textIsEmptyThen();
        faultOfTheLatest();
        check.end();
    }

    private static GainsaidOnce good(String text, int corners) {
        GainsaidOnce x = new GainsaidOnce();
        Check.feed(x, text);
        check.due("town of '" + text + "'", x.town(), corners);
        check.due("fault of '" + text + "'", x.fault(), NONE);
        return x;
    }

    private static void bad(String text, int number, int letter) {
        GainsaidOnce x = new GainsaidOnce();
        Check.feed(x, text);
        check.due("town of '" + text + "'", x.town(), -10 - number);
        check.due("fault of '" + text + "'", x.fault(), letter);
        check.due("clauses behind '" + text + "'", x.told(0), 0);
        check.due("letters behind '" + text + "'", x.told(3), 0);
    }

    private static String filled(String start, int length, String end) {
        return start + " ".repeat(length - start.length() - end.length()) + end;
    }

    private static String corners(int n) {
        return "t255;" + "c1 0;".repeat(n);
    }

    /** "THE TOWN is told in a text (230 letters at most)". */
    private static void lettersAtMost() {
        GainsaidOnce x = new GainsaidOnce();
        for (int n = 1; n <= LETTERS; n++) {
            check.due("letter " + n, x.feed(n == 1 ? 't' : n == 2 ? '9' : n == LETTERS ? ';' : ' '), n);
            check.due("letters by " + n, x.told(3), n);
        }
        check.due("letter 231", x.feed('c'), FULL);
        check.due("letters still", x.told(3), LETTERS);
        check.due("town of 230 letters", x.town(), 0);
        check.due("its clauses", x.told(0), 9);
        check.due("the next text's first letter", x.feed('t'), 1);
        GainsaidOnce cut = new GainsaidOnce();
        Check.feed(cut, filled("t9", LETTERS, ""));
        check.due("the end would be letter 231", cut.feed(';'), FULL);
        check.due("so it has none", cut.town(), -11);
        check.due("at 230", cut.fault(), LETTERS);
        good(filled("t9", LETTERS - 1, ";"), 0);
        good(filled("t9", LETTERS, ";"), 0);
        bad(filled("t9", LETTERS - 1, ""), 1, LETTERS - 1);
        bad(filled("t9;", LETTERS, "x"), 1, LETTERS - 1);
        bad(filled("t9;", LETTERS, "t"), 3, LETTERS - 1);
        bad(filled("t9;c1", LETTERS, "2"), 2, LETTERS - 1);
        // Every number with three figures: the greatest town's longest plain text fits.
        GainsaidOnce most = good("t255;" + "c099 001;".repeat(8) + "h007 255 008;".repeat(9), 8);
        check.due("nine hearers", most.told(2), 9);
        check.due("all at the last corner", most.corner(7, 2), 511);
    }

    /** "A letter (0 .. 255)": at the first place only 't' and blanks can stand. */
    private static void everyLetter() {
        for (int letter = 0; letter <= 255; letter++) {
            GainsaidOnce x = new GainsaidOnce();
            check.due("feed(" + letter + ")", x.feed(letter), 1);
            int due = letter == 32 ? 0 : -11;
            check.due("town of letter " + letter, x.town(), due);
            check.due("fault of letter " + letter, x.fault(), letter == 32 ? NONE : letter == 't' ? 1 : 0);
        }
    }

    /** "'t' U ';' (the CLAUSES that there are: U 1 .. 255, a SET of 0 to 7)". */
    private static void clausesThereAre() {
        for (int u = 0; u <= 300; u++) {
            String text = "t" + u + ";";
            if (u >= 1 && u <= 255) {
                check.due("U", good(text, 0).told(0), u);
            } else {
                bad(text, 2, 1);
            }
        }
        bad("t999;", 2, 1);
        bad("t1000;", 2, 1);
        bad("t65537;", 2, 1);
        bad("t4294967297;", 2, 1);
        bad("t18446744073709551617;", 2, 1);
    }

    /** 't' comes "first". */
    private static void clausesFirst() {
        bad("c1 0;t1;", 1, 0);
        bad("h0 1 1;t1;", 1, 0);
        bad("   c1 0;t1;", 1, 3);
        good("   t1;", 0);
    }

    /** 't' comes "once": "'t' again (at it)". */
    private static void clausesOnce() {
        bad("t1;t1;", 3, 3);
        bad("t1;t", 3, 3);
        bad("t1;t0;", 3, 3);
        bad("t1;tx", 3, 3);
        bad("t1;  t1;", 3, 5);
        bad("t1;c1 0;t1;", 3, 8);
        bad("t1;c1 0;h0 1 1;t1;", 3, 15);
    }

    /** "8 CORNERS at most", "a ninth 'c' (at it)". */
    private static void cornersAtMost() {
        for (int n = 0; n <= 8; n++) {
            GainsaidOnce x = good(corners(n), n);
            check.due("corners", x.told(1), n);
            check.due("the last corner", n == 0 ? 1 : x.corner(n - 1, 0), 1);
            check.due("the corner behind it", x.corner(n, 0), UNKNOWN);
        }
        int ninth = corners(8).length();
        bad(corners(9), 3, ninth);
        bad(corners(8) + "c", 3, ninth);
        bad(corners(8) + "cx", 3, ninth);
        bad(corners(8) + " c100 0;", 3, ninth + 1);
        bad(corners(8) + "h7 1 1;c1 0;", 3, ninth + 7);
        bad(corners(7) + "h6 1 1;c1 0;h7 1 1;c", 3, corners(8).length() + 14);
    }

    /** "BEER costs B there, 0 .. 99". */
    private static void beer() {
        for (int b = 0; b <= 120; b++) {
            String text = "t1;c" + b + " 0;";
            if (b <= 99) {
                check.due("beer", good(text, 1).corner(0, 0), b);
            } else {
                bad(text, 2, 4);
            }
        }
        bad("t1;c999 0;", 2, 4);
        bad("t1;c1 0;c100 0;", 2, 9);
    }

    /** "D 1 a COLD reigns there, 0 not". */
    private static void coldAtFirst() {
        check.due("D 0", good("t1;c1 0;", 1).corner(0, 1), 0);
        check.due("D 1", good("t1;c1 1;", 1).corner(0, 1), 1);
        for (int d : new int[] {2, 3, 9, 10, 99, 100, 999}) {
            bad("t1;c1 " + d + ";", 2, 6);
        }
        GainsaidOnce x = good("t1;c1 0;c1 0;c1 0;c1 0;c1 0;c1 0;c1 0;c1 1;", 8);
        check.due("a cold at the last", x.told(10), 128);
    }

    /** "9 HEARERS at most", "a tenth 'h' (at it)". */
    private static void hearersAtMost() {
        String start = "t255;c1 0;";
        for (int n = 0; n <= 9; n++) {
            GainsaidOnce x = good(start + "h0 1 1;".repeat(n), 1);
            check.due("hearers", x.told(2), n);
            check.due("who stands there", x.corner(0, 2), (1 << n) - 1);
            check.due("the last hearer", n == 0 ? 1 : x.hearer(n - 1, 1), 1);
            check.due("the hearer behind him", x.hearer(n, 0), UNKNOWN);
        }
        int tenth = start.length() + 63;
        String nine = start + "h0 1 1;".repeat(9);
        bad(nine + "h0 1 1;", 3, tenth);
        bad(nine + "h", 3, tenth);
        bad(nine + "h9 999 9;", 3, tenth);
        bad(nine + "  hx", 3, tenth + 2);
        bad(nine + "c1 0;h0 1 1;", 3, tenth + 5);
        check.due("a corner behind nine", good(nine + "c1 0;", 2).told(2), 9);
    }

    /** "at CORNER K told ahead": "a CORNER that was not told yet (at its first)". */
    private static void cornerToldAhead() {
        for (int n = 0; n <= 8; n++) {
            for (int k = 0; k <= 10; k++) {
                String text = corners(n) + "h" + k + " 1 1;";
                if (k < n) {
                    check.due("place", good(text, n).hearer(0, 0), k);
                } else {
                    bad(text, 2, corners(n).length() + 1);
                }
            }
        }
        bad("t1;h0 1 1;c1 0;", 2, 4);
        bad("t1;c1 0;h1 1 1;c1 0;", 2, 9);
        bad("t1;c1 0;h  1 1 1;c1 0;", 2, 11);
        check.due("told between", good("t1;c1 0;h0 1 1;c1 0;h1 1 1;", 2).hearer(1, 0), 1);
    }

    /** "is PINCHED by CLAUSES P 0 .. 255". */
    private static void pinchedBy() {
        for (int p = 0; p <= 300; p++) {
            String text = "t1;c1 0;h0 " + p + " 1;";
            if (p <= 255) {
                check.due("P", good(text, 1).hearer(0, 1), p);
            } else {
                bad(text, 2, 11);
            }
        }
        bad("t1;c1 0;h0 999 1;", 2, 11);
    }

    /** "SAYS CLAUSE S instead, 0 .. 7, or 8: none". */
    private static void saysInstead() {
        for (int s = 0; s <= 12; s++) {
            String text = "t1;c1 0;h0 1 " + s + ";";
            if (s <= 8) {
                check.due("S", good(text, 1).hearer(0, 2), s == 8 ? NONE : s);
            } else {
                bad(text, 2, 13);
            }
        }
        bad("t1;c1 0;h0 1 999;", 2, 13);
    }

    /** "NUMBERS have one to three figures", "a NUMBER of four figures or more" is at fault though it be in bounds. */
    private static void figures() {
        String[] heads = {"t", "t1;c", "t1;c1 ", "t1;c1 0;h", "t1;c1 0;h0 ", "t1;c1 0;h0 1 "};
        String[] tails = {";", " 0;", ";", " 1 1;", " 1;", ";"};
        int[] corners = {0, 1, 1, 1, 1, 1};
        for (int i = 0; i < heads.length; i++) {
            String digit = i == 3 ? "0" : "1";
            bad(heads[i] + ";", 1, heads[i].length());
            good(heads[i] + digit + tails[i], corners[i]);
            good(heads[i] + "0" + digit + tails[i], corners[i]);
            good(heads[i] + "00" + digit + tails[i], corners[i]);
            bad(heads[i] + "000" + digit + tails[i], 2, heads[i].length());
            bad(heads[i] + "0000" + digit + tails[i], 2, heads[i].length());
            bad(heads[i] + "000" + digit, 2, heads[i].length());
        }
        bad("t" + "0".repeat(LETTERS - 1), 2, 1);
    }

    /** "a word is one letter". */
    private static void aWordIsOneLetter() {
        bad("tt1;", 1, 1);
        bad("t1;cc1 0;", 1, 4);
        bad("t1;c1 0;hh0 1 1;", 1, 9);
        bad("t1;ch1 0;", 1, 4);
    }

    /** "blanks (32) may stand anywhere but within NUMBERS". */
    private static void blanksAnywhere() {
        String plain = "t7;c12 1;h0 3 8;";
        for (int at = 0; at <= plain.length(); at++) {
            boolean within = at == plain.indexOf("12") + 1;
            String text = plain.substring(0, at) + "  " + plain.substring(at);
            if (within) {
                bad(text, 2, text.indexOf('2'));
            } else {
                GainsaidOnce x = good(text, 1);
                check.due("beer", x.corner(0, 0), 12);
                check.due("cold", x.corner(0, 1), 1);
                check.due("P", x.hearer(0, 1), 3);
            }
        }
    }

    /** Blanks alone tell nothing, so they are taken as an empty text, as many as there be. */
    private static void blanksAlone() {
        for (int n : new int[] {1, 2, LETTERS - 1, LETTERS}) {
            GainsaidOnce x = Check.told("t7;c1 1;");
            Check.feed(x, " ".repeat(n));
            check.due(n + " blanks: town", x.town(), 0);
            check.due(n + " blanks: fault", x.fault(), NONE);
            check.due(n + " blanks: no town", x.month(), NOT);
        }
    }

    /** A blank within a NUMBER makes two of it. */
    private static void blanksWithinNumbers() {
        bad("t2 55;", 1, 3);
        bad("t1;c1 0 0;", 1, 8);
        bad("t1;c1 0;h0 1 1 1;", 1, 15);
        // What seems beer for 12 costs 1, with a cold of 2.
        bad("t1;c1 2 0;", 2, 6);
    }

    /** "two NUMBERS side by side need one". */
    private static void twoNumbersNeedABlank() {
        bad("t1;c50;", 1, 6);
        bad("t1;c1 0;h01 1;", 2, 9);
        bad("t1;c1 0;h0 11;", 1, 13);
        good("t1;c5 0;", 1);
        good("t1;c5  0;", 1);
        bad("t1;c5,0;", 1, 5);
    }

    private static void onlyThirtyTwoIsABlank() {
        for (int letter = 0; letter <= 255; letter++) {
            if (letter != 32) {
                bad("t1;c1 0;" + (char) letter, letter == 't' ? 3 : 1, letter == 'c' || letter == 'h' ? 9 : 8);
            }
        }
        for (int letter : new int[] {0, 9, 10, 13, 31, 33, 160}) {
            bad("t1" + (char) letter + ";", 1, 2);
            bad("t1;c1" + (char) letter + "0;", 1, 5);
            bad("t" + (char) letter + "1;", 1, 1);
        }
    }

    /** "1 it cannot stand there (a letter that is no word, another word first than 't')". */
    private static void faultOneCannotStand() {
        bad("T1;", 1, 0);
        bad("t1;C1 0;", 1, 3);
        bad("t1;H0 1 1;", 1, 3);
        bad(";", 1, 0);
        bad("7", 1, 0);
        bad("t;", 1, 1);
        bad("t-1;", 1, 1);
        bad("t+1;", 1, 1);
        bad("t1;;", 1, 3);
        bad("t1;7", 1, 3);
        bad("t1:", 1, 2);
        bad("t1c", 1, 2);
        bad("t1h", 1, 2);
        bad("t1;c;", 1, 4);
        bad("t1;c1;", 1, 5);
        bad("t1;c1c", 1, 5);
        bad("t1;c1 0h", 1, 7);
        bad("t1;c1 0;h;", 1, 9);
        bad("t1;c1 0;h0;", 1, 10);
        bad("t1;c1 0;h0 1;", 1, 12);
        bad("t1;c1 0;h0 1 1c", 1, 14);
    }

    /** "2 a NUMBER of four figures or more, or out of its bounds .. (at its first)": at its first figure. */
    private static void faultTwoAtItsFirst() {
        bad("t256;", 2, 1);
        bad("t   256;", 2, 4);
        bad("t   0001;", 2, 4);
        bad("t1;c   100 0;", 2, 7);
        bad("t1;c1   2;", 2, 8);
        bad("t1;c1 0;h   1 1 1;", 2, 12);
        bad("t1;c1 0;h0   256 1;", 2, 13);
        bad("t1;c1 0;h0 1   9;", 2, 15);
    }

    /** "3 't' again, a ninth 'c', a tenth 'h' (at it)": what comes behind does not matter. */
    private static void faultThreeAtIt() {
        bad("t1;t", 3, 3);
        bad(corners(8) + "c", 3, 45);
        bad("t1;c1 0;" + "h0 1 1;".repeat(9) + "h", 3, 71);
    }

    /** "FAULTS, at the first letter that has one", though a later one has a lesser number. */
    private static void theFirstLetterAtFault() {
        bad("t256x", 2, 1);
        bad("t1000x", 2, 1);
        bad("t0t", 2, 1);
        bad("t0", 2, 1);
        bad("t1;t;x", 3, 3);
        bad("t1;c100 2;", 2, 4);
        bad("t1;c100x", 2, 4);
        bad("t1;c1 0;h1 256 9x", 2, 9);
        bad("t1;c1 0;h0 256 9x", 2, 11);
        bad("t1;c1 0;h0 255 9x", 2, 15);
        bad("t1;c1 0;h0 255 8x", 1, 16);
        bad("x256", 1, 0);
        bad("t1;xt", 1, 3);
    }

    /** "of these the least": where a letter has several. */
    private static void ofTheseTheLeast() {
        // A number of four figures where none can stand.
        bad("1000", 1, 0);
        bad("t1 1000;", 1, 3);
        bad("t1;1000", 1, 3);
        bad("t1;c1 0 1000;", 1, 8);
        bad("t1;c1 0;h0 1 1 1000;", 1, 15);
        // 't' again, a ninth 'c', a tenth 'h' where no word can stand.
        bad("t1t", 1, 2);
        bad("tt", 1, 1);
        bad("t1;ct", 1, 4);
        bad(corners(7) + "c1 0c", 1, 44);
        bad("t1;c1 0;" + "h0 1 1;".repeat(8) + "h0 1 1h", 1, 70);
    }

    /** "(the end at the text's length)". */
    private static void theEndAtTheLength() {
        String whole = "t1;c1 0;h0 1 1;";
        for (int length = 1; length <= whole.length(); length++) {
            String text = whole.substring(0, length);
            for (int blanks = 0; blanks <= 2; blanks++) {
                String longer = text + " ".repeat(blanks);
                if (text.endsWith(";")) {
                    good(longer, length > 3 ? 1 : 0);
                } else {
                    bad(longer, 1, longer.length());
                }
            }
        }
    }

    /** "An empty text: no TOWN." */
    private static void emptyText() {
        GainsaidOnce x = good("", 0);
        check.due("month of a new object", x.month(), NOT);
        GainsaidOnce y = Check.told("t7;c1 1;c1 0;h0 7 8;");
        y.seed(3);
        y.cry(7, 0, 1);
        y.keep(0);
        y.cry(7, 0, 1);
        y.see(7, 0, 1);
        y.write(7);
        check.due("town of an empty text", y.town(), 0);
        check.due("its fault", y.fault(), NONE);
        for (int what = 0; what <= 13; what++) {
            check.due("no town: told(" + what + ")", y.told(what), what == 6 ? NONE : 0);
        }
        check.due("no town: month", y.month(), NOT);
        check.due("no town: drift", y.drift(1), NOT);
        check.due("no town: undo", y.undo(1), NOT);
        check.due("no town: goBack", y.goBack(0), NOT);
        check.due("no town: corner", y.corner(0, 0), UNKNOWN);
        check.due("no town: hearer", y.hearer(0, 0), UNKNOWN);
        check.due("no town: the seed stays", y.seed(3), 3);
        GainsaidOnce z = Check.told("t7;");
        check.due("a town without corners", z.month(), 0);
    }

    /** "(no ROUNDS, nobody HOARSE, KEPT IN; nothing SEEN, no BOOK; IMAGES, what could be undone are gone; ..)". */
    private static void townBeginsAnew() {
        String text = "t7;c1 1;c1 0;h0 1 8;h1 2 8;";
        GainsaidOnce x = Check.told(text);
        x.seed(3);
        x.keep(0);
        x.keep(1);
        x.cry(7, 0, 1);
        x.month();
        x.cry(1, 0, 1);
        x.keepIn(1, true);
        x.move(1, 0);
        x.cold(0, false);
        x.cold(1, true);
        x.see(7, 0, 1);
        x.write(7);
        Check.feed(x, text);
        check.due("the same town", x.town(), 2);
        int[] due = {7, 2, 2, 0, 0, 0, NONE, 0, 0, 0, 1, 0, 0, 0};
        for (int what = 0; what <= 13; what++) {
            check.due("the same town: told(" + what + ")", x.told(what), due[what]);
        }
        check.due("he stands where he was told", x.hearer(1, 0), 1);
        check.due("image 0 is gone", x.goBack(0), NOT);
        check.due("image 1 is gone", x.goBack(1), NOT);
        check.due("nothing can be undone", x.undo(1), NOT);
        check.due("the seed stays", x.seed(0), 3);
    }

    /** "THE TEXT (it is empty then, with a FAULT, too)". */
    private static void textIsEmptyThen() {
        GainsaidOnce x = new GainsaidOnce();
        Check.feed(x, "t1;");
        x.town();
        check.due("empty then", x.told(3), 0);
        check.due("a first letter", x.feed('t'), 1);
        Check.feed(x, "0;");
        check.due("at fault", x.town(), -12);
        check.due("empty with a fault, too", x.told(3), 0);
        check.due("a first letter again", x.feed('t'), 1);
        Check.feed(x, "6;");
        check.due("nothing of it is left", x.town(), 0);
        check.due("clauses", x.told(0), 6);
    }

    /** "The letter of the FAULT of the latest town(); NONE." */
    private static void faultOfTheLatest() {
        GainsaidOnce x = new GainsaidOnce();
        check.due("no town() yet", x.fault(), NONE);
        Check.feed(x, "t1;x");
        check.due("not before town()", x.fault(), NONE);
        x.town();
        check.due("at 3", x.fault(), 3);
        Check.feed(x, "t1;");
        check.due("still at 3", x.fault(), 3);
        x.town();
        check.due("none", x.fault(), NONE);
        Check.feed(x, "x");
        x.town();
        check.due("at 0", x.fault(), 0);
        x.town();
        check.due("none of an empty text", x.fault(), NONE);
    }
}
