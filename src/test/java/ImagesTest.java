/** Promises 27 to 29: the seed, and images to go on from. */
public final class ImagesTest {
    private static final int NONE = GainsaidOnce.NONE;
    private static final int UNKNOWN = GainsaidOnce.UNKNOWN;
    private static final int OUTSIDE = GainsaidOnce.OUTSIDE;
    private static final int NOT = GainsaidOnce.NOT;
    private static final String TEXT = "t7;c1 1;c2 0;h0 1 1;h1 2 2;h1 7 0;";

    private static final Check check = new Check("ImagesTest");

    public static void main(String[] args) {
        seed();
        keepRefuses();
        goBackRefuses();
        goBackBringsAllBack();
        imagesAreApart();
        imagesWithoutTown();
        check.end();
    }

    private static void seed() {
        GainsaidOnce x = new GainsaidOnce();
        check.due("seed at first", x.seed(2147483647), 0);
        check.due("the greatest", x.seed(7), 2147483647);
        check.due("seed(-1)", x.seed(-1), OUTSIDE);
        check.due("seed(least)", x.seed(Integer.MIN_VALUE), OUTSIDE);
        check.due("it stays", x.seed(0), 7);
        GainsaidOnce drawn = Check.told("t1;c0 0;");
        drawn.seed(2147483647);
        drawn.drift(1);
        long seed = 2147483647L;
        for (int i = 0; i < 3; i++) {
            seed = (seed * 1103515245L + 12345L) % 2147483648L;
        }
        check.due("three draws", drawn.seed(0), seed);
        check.due("no deed", drawn.told(13), 1);
    }

    private static void keepRefuses() {
        GainsaidOnce x = Check.told(TEXT);
        x.cry(1, 0, 0);
        check.due("keep(2)", x.keep(2), UNKNOWN);
        check.due("keep(-1)", x.keep(-1), UNKNOWN);
        check.due("nothing forgotten", x.told(13), 1);
        check.due("keep(0)", x.keep(0), 1);
        check.due("nothing can be undone", x.told(13), 0);
        check.due("undo", x.undo(1), NOT);
        check.due("the rest is as it was", x.told(4), 1);
    }

    private static void goBackRefuses() {
        GainsaidOnce x = Check.told(TEXT);
        x.cry(1, 0, 0);
        check.due("goBack(2)", x.goBack(2), UNKNOWN);
        check.due("goBack(-1)", x.goBack(-1), UNKNOWN);
        check.due("goBack(0)", x.goBack(0), NOT);
        x.keep(1);
        x.month();
        check.due("goBack(0) still", x.goBack(0), NOT);
        check.due("nothing forgotten", x.told(13), 1);
        check.due("goBack(1)", x.goBack(1), 1);
        check.due("nothing can be undone", x.told(13), 0);
        Check.feed(x, TEXT);
        x.town();
        check.due("goBack(1) in another town", x.goBack(1), NOT);
    }

    private static void goBackBringsAllBack() {
        GainsaidOnce x = Check.told(TEXT);
        x.cry(1, 0, 1);
        x.month();
        x.cry(4, 1, 0);
        x.keepIn(1, true);
        x.move(2, 0);
        x.cold(1, true);
        x.seed(1234);
        int[] before = new int[14];
        for (int what = 0; what < 14; what++) {
            before[what] = x.told(what);
        }
        check.due("keep(0)", x.keep(0), 1);
        for (int times = 0; times < 2; times++) {
            x.drift(7);
            x.keepIn(0, true);
            x.keepIn(1, false);
            x.move(2, 1);
            x.move(0, 1);
            x.cold(0, false);
            x.cold(1, false);
            x.cry(7, 1, 1);
            x.see(1, 0, 1);
            x.write(1);
            check.due("goBack(0)", x.goBack(0), 1);
            for (int what = 0; what < 11; what++) {
                check.due("back: told(" + what + ")", x.told(what), before[what]);
            }
            check.due("back: what was seen stays", x.told(11), times + 1);
            check.due("back: the book stays", x.told(12), times + 1);
            check.due("back: nothing can be undone", x.told(13), 0);
            check.due("back: place of 2", x.hearer(2, 0), 0);
            check.due("back: place of 0", x.hearer(0, 0), 0);
            check.due("back: seed", x.seed(1234), 1234);
        }
    }

    private static void imagesAreApart() {
        GainsaidOnce x = Check.told(TEXT);
        x.keep(0);
        x.cry(1, 0, 1);
        x.seed(5);
        x.keep(1);
        x.cry(1, 0, 1);
        x.goBack(0);
        check.due("image 0: rounds", x.told(4), 0);
        check.due("image 0: law", x.told(6), NONE);
        check.due("image 0: seed", x.seed(9), 0);
        x.goBack(1);
        check.due("image 1: rounds", x.told(4), 1);
        check.due("image 1: seed", x.seed(9), 5);
        x.month();
        x.keep(0);
        x.goBack(1);
        x.goBack(0);
        check.due("image 0 anew: months", x.told(5), 1);
        check.due("image 0 anew: seed", x.seed(0), 9);
        x.cry(1, 0, 1);
        check.due("undo goes to the image and no further", x.undo(1), 1);
        check.due("no further", x.undo(1), NOT);
        Check.feed(x, "x");
        x.town();
        check.due("a text at fault leaves images", x.goBack(1), 1);
    }

    private static void imagesWithoutTown() {
        GainsaidOnce x = new GainsaidOnce();
        x.seed(8);
        check.due("keep without a town", x.keep(1), 1);
        x.seed(9);
        check.due("goBack without a town", x.goBack(1), 1);
        check.due("its seed", x.seed(0), 8);
    }
}
