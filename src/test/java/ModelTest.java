import java.util.Random;

/** Runs of drawn calls: each answer of GainsaidOnce is held against the Model's. */
public final class ModelTest {
    private static final int RUNS = 400;
    private static final int CALLS = 512;

    private static final Check check = new Check("ModelTest");

    private final Random random;
    private final String run;
    private final GainsaidOnce x = new GainsaidOnce();
    private final Model m = new Model();
    private int calls;

    private ModelTest(int number) {
        random = new Random(number);
        run = "run " + number;
    }

    public static void main(String[] args) {
        for (int number = 0; number < RUNS; number++) {
            new ModelTest(number).go();
        }
        check.end();
    }

    private void go() {
        int tries = 0;
        while (calls < CALLS) {
            if (tries == 0 || random.nextInt(60) == 0 && calls < 300) {
                tries = 1;
                tellTown();
            } else {
                callOne(random.nextInt(29));
            }
        }
    }

    private void due(String call, int got, int want) {
        calls++;
        check.due(run + ", call " + calls + ": " + call, got, want);
    }

    private void tellTown() {
        String text = text();
        int left = 230;
        for (int i = 0; i < text.length() && i < left; i++) {
            char c = text.charAt(i);
            due("feed(" + (int) c + ")", x.feed(c), m.feed(c));
        }
        due("town() of '" + text + "'", x.town(), m.town());
        due("fault()", x.fault(), m.fault());
    }

    private String text() {
        int corners = random.nextInt(5) == 0 ? random.nextInt(10) : 1 + random.nextInt(5);
        int hearers = random.nextInt(6) == 0 ? random.nextInt(11) : 2 + random.nextInt(6);
        StringBuilder text = new StringBuilder();
        text.append('t').append(1 + random.nextInt(255)).append(';');
        for (int k = 0; k < corners; k++) {
            text.append('c').append(random.nextInt(random.nextBoolean() ? 3 : 100)).append(' ')
                .append(random.nextInt(2)).append(';');
        }
        for (int h = 0; h < hearers && corners > 0; h++) {
            int pinch = random.nextInt(256) & (random.nextBoolean() ? 255 : random.nextInt(256));
            text.append('h').append(random.nextInt(corners)).append(' ').append(pinch).append(' ')
                .append(random.nextInt(9)).append(';');
        }
        if (random.nextInt(3) == 0) {
            spoil(text);
        }
        return text.toString();
    }

    private void spoil(StringBuilder text) {
        String signs = "tch; 0123456789x$";
        for (int i = random.nextInt(3); i >= 0; i--) {
            int at = random.nextInt(text.length() + 1);
            char sign = signs.charAt(random.nextInt(signs.length()));
            int how = random.nextInt(4);
            if (how == 0 && at < text.length()) {
                text.deleteCharAt(at);
            } else if (how == 1) {
                text.setLength(at);
            } else {
                text.insert(at, how == 2 ? ' ' : sign);
            }
        }
    }

    /** Mostly a number below n; now and then one beside its bounds, or far off. */
    private int below(int n) {
        int how = random.nextInt(40);
        if (how == 0) {
            return -1 - random.nextInt(3);
        }
        if (how == 1) {
            return n + random.nextInt(3);
        }
        if (how == 2) {
            return random.nextInt();
        }
        return n > 0 ? random.nextInt(n) : 0;
    }

    private int decree() {
        return random.nextInt(12) == 0 ? below(256) : random.nextInt(256) & m.told(0);
    }

    private int corner() {
        return below(m.told(1));
    }

    private int hearer() {
        return below(m.told(2));
    }

    private void callOne(int which) {
        if (which < 14) {
            callDeed(which);
        } else {
            callQuestion(which);
        }
        if (random.nextInt(4) == 0 && calls < CALLS) {
            int what = below(14);
            due("told(" + what + ")", x.told(what), m.told(what));
        }
    }

    private void callDeed(int which) {
        int d = decree();
        int k = corner();
        int h = hearer();
        int way = below(2);
        boolean is = random.nextInt(3) > 0;
        switch (which) {
            case 0, 1, 2, 3 -> due("cry(" + d + ", " + k + ", " + way + ")", x.cry(d, k, way), m.cry(d, k, way));
            case 4 -> due("month()", x.month(), m.month());
            case 5 -> {
                is = random.nextInt(3) == 0;
                due("keepIn(" + h + ", " + is + ")", x.keepIn(h, is), m.keepIn(h, is));
            }
            case 6 -> due("move(" + h + ", " + k + ")", x.move(h, k), m.move(h, k));
            case 7 -> due("cold(" + k + ", " + is + ")", x.cold(k, is), m.cold(k, is));
            case 8 -> {
                int n = random.nextInt(3) == 0 ? below(22) : 1 + random.nextInt(4);
                due("drift(" + n + ")", x.drift(n), m.drift(n));
            }
            case 9 -> {
                int n = random.nextInt(3) == 0 ? below(32) : 1 + random.nextInt(4);
                due("undo(" + n + ")", x.undo(n), m.undo(n));
            }
            case 10 -> {
                int i = below(2);
                if (random.nextInt(4) == 0) {
                    due("keep(" + i + ")", x.keep(i), m.keep(i));
                }
            }
            case 11 -> {
                int i = below(2);
                if (random.nextInt(4) == 0) {
                    due("goBack(" + i + ")", x.goBack(i), m.goBack(i));
                }
            }
            case 12 -> {
                int v = random.nextInt();
                due("seed(" + v + ")", x.seed(v), m.seed(v));
            }
            default -> {
                int what = below(6);
                due("hearer(" + h + ", " + what + ")", x.hearer(h, what), m.hearer(h, what));
            }
        }
    }

    private void callQuestion(int which) {
        int d = decree();
        int k = corner();
        int way = below(2);
        int what = below(2);
        String told = "(" + d + ", " + k + ", " + way + ", ";
        switch (which) {
            case 14, 15 -> {
                what = below(3);
                due("would" + told + what + ")", x.would(d, k, way, what), m.would(d, k, way, what));
            }
            case 16, 17 -> {
                int must = decree() & (random.nextBoolean() ? 0 : 255);
                due("bestRound(" + d + ", " + must + ", " + what + ")", x.bestRound(d, must, what),
                    m.bestRound(d, must, what));
            }
            case 18 -> {
                int law = random.nextInt(3) == 0 ? d : m.would(d, k, way, 0);
                int i = random.nextInt(8) - 3;
                due("began(" + law + ", " + k + ", " + way + ", " + i + ")", x.began(law, k, way, i),
                    m.began(law, k, way, i));
            }
            case 19 -> due("passed()", x.passed(), m.passed());
            case 20, 21 -> due("hired" + told + what + ")", x.hired(d, k, way, what), m.hired(d, k, way, what));
            case 22 -> due("spoilt" + told + what + ")", x.spoilt(d, k, way, what), m.spoilt(d, k, way, what));
            case 23 -> {
                int n = below(61);
                int q = random.nextBoolean() ? below(5) : below(101);
                due("odds(" + n + ", " + q + ")", x.odds(n, q), m.odds(n, q));
            }
            case 24 -> {
                int spoke = random.nextInt(6) == 0 ? below(10) : random.nextInt(3);
                due("see(" + d + ", " + k + ", " + spoke + ")", x.see(d, k, spoke), m.see(d, k, spoke));
            }
            case 25 -> {
                int i = random.nextInt(3) == 0 ? below(46) : random.nextInt(7) - 3;
                due("behind(" + i + ")", x.behind(i), m.behind(i));
            }
            case 26 -> {
                int law = random.nextInt(3) == 0 ? below(256) : m.told(6);
                due("write(" + law + ")", x.write(law), m.write(law));
            }
            case 27 -> due("judge()", x.judge(), m.judge());
            default -> {
                if (random.nextInt(6) == 0) {
                    due("tear()", x.tear(), m.tear());
                } else {
                    what = below(4);
                    due("corner(" + k + ", " + what + ")", x.corner(k, what), m.corner(k, what));
                }
            }
        }
    }
}
