import java.util.function.Supplier;
import java.util.function.ToIntFunction;

/**
 * "REFUSALS, of several the first in this order: UNKNOWN, OUTSIDE, NOT, FULL. What is refused changes nothing."
 * Each refusal of each promise: the numbers just beside its bounds and the farthest ones, with twins that show
 * that nothing changed; and calls that are not refused, but change nothing either.
 */
public final class RefusalTest {
    private static final int UNKNOWN = GainsaidOnce.UNKNOWN;
    private static final int OUTSIDE = GainsaidOnce.OUTSIDE;
    private static final int NOT = GainsaidOnce.NOT;
    private static final int FULL = GainsaidOnce.FULL;
    private static final int LEAST = Integer.MIN_VALUE;
    private static final int MOST = Integer.MAX_VALUE;

    /** Clause 7 is not of U; three corners, five hearers. */
    private static final String TEXT = "t127;c5 0;c9 1;c2 0;h0 3 2;h1 12 4;h1 16 5;h2 96 0;h0 1 1;";
    private static final int[] NO_CORNERS = {3, -1, 4, 8, 31, 32, LEAST, MOST};
    private static final int[] NO_HEARERS = {5, -1, 6, 9, 31, 32, LEAST, MOST};
    private static final int[] NO_DECREES = {128, 129, 255, 256, -1, LEAST, MOST};
    private static final int[] NO_WAYS = {-1, 2, LEAST, MOST};

    private static final Check check = new Check("RefusalTest");
    private static final Twins twins = new Twins(check);

    public static void main(String[] args) {
        theOrderOfTheNumbers();
        someOfAll();
        feed();
        townAtFault();
        told();
        hearer();
        corner();
        cry();
        cryFull();
        month();
        keepIn();
        move();
        cold();
        drift();
        driftFull();
        undo();
        rounds();
        bestRound();
        began();
        odds();
        see();
        write();
        seed();
        keep();
        goBack();
        triedChangesNothing();
        askedChangesNothing();
        check.end();
    }

    /** Image 1 is kept, image 0 is not; of each thing that can be there is some. */
    private static GainsaidOnce busyWithoutText() {
        GainsaidOnce x = Check.told(TEXT);
        x.seed(77);
        x.cry(127, 0, 1);
        x.keepIn(3, true);
        x.keep(1);
        x.drift(1);
        x.seed(99);
        x.cry(21, 1, 0);
        x.keepIn(2, true);
        x.move(4, 2);
        x.cold(0, true);
        x.month();
        x.cry(4, 2, 0);
        x.see(1, 0, 1);
        x.see(32, 2, 0);
        x.write(x.told(6));
        x.write(3);
        return x;
    }

    private static GainsaidOnce busy() {
        GainsaidOnce x = busyWithoutText();
        Check.feed(x, "t5");
        return x;
    }

    private static GainsaidOnce fullText() {
        GainsaidOnce x = new GainsaidOnce();
        Check.feed(x, "t1;" + " ".repeat(227));
        return x;
    }

    private static GainsaidOnce allSeen() {
        GainsaidOnce x = busy();
        for (int n = 0; n < 4; n++) {
            x.see(0, n % 3, 0);
        }
        return x;
    }

    private static GainsaidOnce wholeBook() {
        GainsaidOnce x = busy();
        for (int n = 0; n < 18; n++) {
            x.write(n);
        }
        return x;
    }

    private static GainsaidOnce without(int deeds) {
        GainsaidOnce x = Check.told(TEXT);
        for (int n = 0; n < deeds; n++) {
            x.cry(1 + n, n % 3, n % 2);
        }
        return x;
    }

    private static GainsaidOnce nineThousand() {
        GainsaidOnce x = Check.told("t1;c0 0;");
        for (int i = 0; i < 450; i++) {
            x.drift(20);
        }
        return x;
    }

    private static GainsaidOnce tooManyRounds() {
        GainsaidOnce x = nineThousand();
        x.cry(1, 0, 0);
        return x;
    }

    private static GainsaidOnce tooManyMonths() {
        GainsaidOnce x = nineThousand();
        x.month();
        return x;
    }

    private static void refused(String call, ToIntFunction<GainsaidOnce> how, int due) {
        twins.refused(call, RefusalTest::busy, how, due);
    }

    private static void refusedByNew(String call, ToIntFunction<GainsaidOnce> how, int due) {
        Supplier<GainsaidOnce> made = GainsaidOnce::new;
        twins.refused("new object: " + call, made, how, due);
    }

    /** An object in which nothing is at stake would show nothing. */
    private static void someOfAll() {
        GainsaidOnce x = busy();
        int[] due = {127, 3, 5, 2, 4, 2, 16, 2, 2, 12, 3, 2, 2, 7};
        for (int what = 0; what < due.length; what++) {
            check.due("busy: told(" + what + ")", x.told(what), due[what]);
        }
    }

    /** "They are far below all that is counted: -1000000001 and on." */
    private static void theOrderOfTheNumbers() {
        check.due("UNKNOWN", UNKNOWN, -1000000001);
        check.due("OUTSIDE", OUTSIDE, UNKNOWN - 1);
        check.due("NOT", NOT, OUTSIDE - 1);
        check.due("FULL", FULL, NOT - 1);
    }

    /** "A letter (0 .. 255) comes behind THE TEXT. OUTSIDE, FULL (230)." */
    private static void feed() {
        for (int letter : new int[] {-1, 256, LEAST, MOST}) {
            refused("feed(" + letter + ")", x -> x.feed(letter), OUTSIDE);
            twins.refused("full: feed(" + letter + ")", RefusalTest::fullText, x -> x.feed(letter), OUTSIDE);
        }
        for (int letter : new int[] {0, ';', 'x', 255}) {
            twins.refused("full: feed(" + letter + ")", RefusalTest::fullText, x -> x.feed(letter), FULL);
        }
    }

    /** "-10 less the number of its FAULT (all is as it was)." */
    private static void townAtFault() {
        Supplier<GainsaidOnce> made = RefusalTest::busyWithoutText;
        twins.atFault("x", made, -11, 0);
        twins.atFault("c1 0;", made, -11, 0);
        twins.atFault("t3;c7 1;c8 0;h1 1 1;h0", made, -11, 22);
        twins.atFault("t0;", made, -12, 1);
        twins.atFault("t3;c7 1;c8 0;h1 1 1;h2 1 1;", made, -12, 21);
        twins.atFault("t3;c7 1;c8 0;h1 1 1;t3;", made, -13, 20);
        twins.atFault("t3;c0 1;c0 1;c0 1;c0 1;c0 1;c0 1;c0 1;c0 1;c0 1;", made, -13, 43);
        twins.atFault("x", GainsaidOnce::new, -11, 0);
    }

    /** "0 U .. 13 how many can be undone. OUTSIDE." */
    private static void told() {
        for (int what : new int[] {-1, 14, LEAST, MOST}) {
            refused("told(" + what + ")", x -> x.told(what), OUTSIDE);
            refusedByNew("told(" + what + ")", x -> x.told(what), OUTSIDE);
        }
    }

    /** "Of a HEARER: what = 0 .. 4. UNKNOWN, OUTSIDE." */
    private static void hearer() {
        for (int h : NO_HEARERS) {
            refused("hearer(" + h + ", 0)", x -> x.hearer(h, 0), UNKNOWN);
            refused("hearer(" + h + ", 5)", x -> x.hearer(h, 5), UNKNOWN);
        }
        for (int what : new int[] {-1, 5, LEAST, MOST}) {
            refused("hearer(4, " + what + ")", x -> x.hearer(4, what), OUTSIDE);
        }
        refusedByNew("hearer(0, 0)", x -> x.hearer(0, 0), UNKNOWN);
    }

    /** "Of a CORNER: what = 0 .. 2. UNKNOWN, OUTSIDE." */
    private static void corner() {
        for (int k : NO_CORNERS) {
            refused("corner(" + k + ", 0)", x -> x.corner(k, 0), UNKNOWN);
            refused("corner(" + k + ", 3)", x -> x.corner(k, 3), UNKNOWN);
        }
        for (int what : new int[] {-1, 3, LEAST, MOST}) {
            refused("corner(2, " + what + ")", x -> x.corner(2, what), OUTSIDE);
        }
        refusedByNew("corner(0, 0)", x -> x.corner(0, 0), UNKNOWN);
    }

    /** "UNKNOWN (a CORNER, CLAUSES that are not of U), OUTSIDE" of a crying. */
    private static void cry() {
        for (int d : NO_DECREES) {
            refused("cry(" + d + ", 0, 0)", x -> x.cry(d, 0, 0), UNKNOWN);
            refused("cry(" + d + ", 0, 2)", x -> x.cry(d, 0, 2), UNKNOWN);
        }
        for (int k : NO_CORNERS) {
            refused("cry(1, " + k + ", 0)", x -> x.cry(1, k, 0), UNKNOWN);
            refused("cry(1, " + k + ", 2)", x -> x.cry(1, k, 2), UNKNOWN);
        }
        for (int way : NO_WAYS) {
            refused("cry(127, 2, " + way + ")", x -> x.cry(127, 2, way), OUTSIDE);
        }
        refusedByNew("cry(0, 0, 0)", x -> x.cry(0, 0, 0), UNKNOWN);
    }

    /** "FULL: ROUNDS are above 9000", behind all other refusals. */
    private static void cryFull() {
        GainsaidOnce last = nineThousand();
        check.due("rounds", last.told(4), 9000);
        check.due("cry at 9000", last.cry(1, 0, 0), 1);
        check.due("rounds then", last.told(4), 9001);
        Supplier<GainsaidOnce> made = RefusalTest::tooManyRounds;
        twins.refusedWhenOld("9001 rounds: cry", made, x -> x.cry(1, 0, 0), FULL);
        twins.refusedWhenOld("9001 rounds: cry of nothing", made, x -> x.cry(0, 0, 1), FULL);
        twins.refusedWhenOld("9001 rounds: cry, way 2", made, x -> x.cry(1, 0, 2), OUTSIDE);
        twins.refusedWhenOld("9001 rounds: cry, corner 1", made, x -> x.cry(1, 1, 0), UNKNOWN);
        twins.refusedWhenOld("9001 rounds: cry, clause 1", made, x -> x.cry(2, 0, 2), UNKNOWN);
        GainsaidOnce months = tooManyMonths();
        check.due("9001 months do not hinder a cry", months.cry(1, 0, 0), 1);
        GainsaidOnce undone = tooManyRounds();
        check.due("9001 rounds: undone", undone.undo(1), 9000);
        check.due("9001 rounds: then again", undone.cry(0, 0, 0), 0);
    }

    /** "NOT: no TOWN; FULL: MONTHS are above 9000." */
    private static void month() {
        refusedByNew("month()", x -> x.month(), NOT);
        GainsaidOnce last = nineThousand();
        check.due("months", last.told(5), 9000);
        check.due("month at 9000", last.month(), 0);
        check.due("months then", last.told(5), 9001);
        twins.refusedWhenOld("9001 months: month()", RefusalTest::tooManyMonths, x -> x.month(), FULL);
        GainsaidOnce rounds = tooManyRounds();
        check.due("9001 rounds do not hinder a month", rounds.month(), 0);
        GainsaidOnce emptied = busyWithoutText();
        emptied.town();
        check.due("month() behind an empty text", emptied.month(), NOT);
        check.due("months behind an empty text", emptied.told(5), 0);
        check.due("deeds behind an empty text", emptied.told(13), 0);
    }

    /** "A HEARER is KEPT IN (is), or not. UNKNOWN." */
    private static void keepIn() {
        for (int h : NO_HEARERS) {
            refused("keepIn(" + h + ", true)", x -> x.keepIn(h, true), UNKNOWN);
            refused("keepIn(" + h + ", false)", x -> x.keepIn(h, false), UNKNOWN);
        }
        refusedByNew("keepIn(0, true)", x -> x.keepIn(0, true), UNKNOWN);
    }

    /** "A HEARER stands at another CORNER from now on. UNKNOWN." */
    private static void move() {
        for (int h : NO_HEARERS) {
            refused("move(" + h + ", 0)", x -> x.move(h, 0), UNKNOWN);
            refused("move(" + h + ", 3)", x -> x.move(h, 3), UNKNOWN);
        }
        for (int k : NO_CORNERS) {
            refused("move(4, " + k + ")", x -> x.move(4, k), UNKNOWN);
        }
        refusedByNew("move(0, 0)", x -> x.move(0, 0), UNKNOWN);
    }

    /** "A COLD reigns at a CORNER (is), or not. UNKNOWN." */
    private static void cold() {
        for (int k : NO_CORNERS) {
            refused("cold(" + k + ", true)", x -> x.cold(k, true), UNKNOWN);
            refused("cold(" + k + ", false)", x -> x.cold(k, false), UNKNOWN);
        }
        refusedByNew("cold(0, true)", x -> x.cold(0, true), UNKNOWN);
    }

    /** "n months BY DRAWS (1 .. 20). OUTSIDE, NOT: no TOWN." */
    private static void drift() {
        for (int n : new int[] {0, 21, -1, LEAST, MOST}) {
            refused("drift(" + n + ")", x -> x.drift(n), OUTSIDE);
            refusedByNew("drift(" + n + ")", x -> x.drift(n), OUTSIDE);
        }
        refusedByNew("drift(1)", x -> x.drift(1), NOT);
        refusedByNew("drift(20)", x -> x.drift(20), NOT);
    }

    /** "FULL: ROUNDS or MONTHS are above 9000." */
    private static void driftFull() {
        for (int n : new int[] {1, 20}) {
            twins.refusedWhenOld("9001 rounds: drift " + n, RefusalTest::tooManyRounds, x -> x.drift(n), FULL);
            twins.refusedWhenOld("9001 months: drift " + n, RefusalTest::tooManyMonths, x -> x.drift(n), FULL);
        }
        twins.refusedWhenOld("9001 rounds: drift 21", RefusalTest::tooManyRounds, x -> x.drift(21), OUTSIDE);
        twins.refusedWhenOld("9001 months: drift 0", RefusalTest::tooManyMonths, x -> x.drift(0), OUTSIDE);
        GainsaidOnce last = nineThousand();
        check.holds("drift at 9000", last.drift(1) >= 0);
        check.due("rounds by drift", last.told(4), 9001);
        check.due("months by drift", last.told(5), 9001);
    }

    /** "The n latest (1 .. 30) are undone. OUTSIDE, NOT: not so many." */
    private static void undo() {
        for (int n : new int[] {0, 31, -1, LEAST, MOST}) {
            refused("undo(" + n + ")", x -> x.undo(n), OUTSIDE);
            refusedByNew("undo(" + n + ")", x -> x.undo(n), OUTSIDE);
        }
        for (int deeds : new int[] {0, 1, 2, 29}) {
            Supplier<GainsaidOnce> made = () -> without(deeds);
            twins.refused(deeds + " deeds: one more", made, x -> x.undo(deeds + 1), NOT);
            twins.refused(deeds + " deeds: undo(30)", made, x -> x.undo(30), NOT);
            twins.refused(deeds + " deeds: undo(31)", made, x -> x.undo(31), OUTSIDE);
        }
        refusedByNew("undo(1)", x -> x.undo(1), NOT);
    }

    private interface Round {
        int ask(GainsaidOnce x, int decree, int k, int way, int what);
    }

    /** WOULD, HIRED, SPOILT: "UNKNOWN, OUTSIDE" of a DECREE, a CORNER, a way and what is asked. */
    private static void rounds() {
        round("would", (x, d, k, way, what) -> x.would(d, k, way, what), 2);
        round("hired", (x, d, k, way, what) -> x.hired(d, k, way, what), 1);
        round("spoilt", (x, d, k, way, what) -> x.spoilt(d, k, way, what), 1);
    }

    private static void round(String name, Round call, int mostWhat) {
        for (int d : NO_DECREES) {
            refused(name + ", decree " + d, x -> call.ask(x, d, 0, 0, 0), UNKNOWN);
            refused(name + ", decree " + d + ", way 2", x -> call.ask(x, d, 0, 2, 0), UNKNOWN);
        }
        for (int k : NO_CORNERS) {
            refused(name + ", corner " + k, x -> call.ask(x, 1, k, 0, 0), UNKNOWN);
            refused(name + ", corner " + k + ", what -1", x -> call.ask(x, 1, k, 0, -1), UNKNOWN);
        }
        for (int way : NO_WAYS) {
            refused(name + ", way " + way, x -> call.ask(x, 127, 2, way, 0), OUTSIDE);
        }
        for (int what : new int[] {-1, mostWhat + 1, LEAST, MOST}) {
            refused(name + ", what " + what, x -> call.ask(x, 127, 2, 1, what), OUTSIDE);
        }
        refusedByNew(name, x -> call.ask(x, 0, 0, 0, 0), UNKNOWN);
    }

    /** "UNKNOWN (CLAUSES that are not of U), OUTSIDE" of a BEST ROUND. */
    private static void bestRound() {
        for (int d : NO_DECREES) {
            refused("bestRound(" + d + ", 0, 0)", x -> x.bestRound(d, 0, 0), UNKNOWN);
            refused("bestRound(0, " + d + ", 1)", x -> x.bestRound(0, d, 1), UNKNOWN);
            refused("bestRound(0, " + d + ", 2)", x -> x.bestRound(0, d, 2), UNKNOWN);
            refused("bestRound(" + d + ", 0, -1)", x -> x.bestRound(d, 0, -1), UNKNOWN);
        }
        for (int what : new int[] {-1, 2, LEAST, MOST}) {
            refused("bestRound(127, 127, " + what + ")", x -> x.bestRound(127, 127, what), OUTSIDE);
        }
        refusedByNew("bestRound(1, 0, 0)", x -> x.bestRound(1, 0, 0), UNKNOWN);
        refusedByNew("bestRound(0, 1, 0)", x -> x.bestRound(0, 1, 0), UNKNOWN);
        refusedByNew("bestRound(0, 0, 2)", x -> x.bestRound(0, 0, 2), OUTSIDE);
    }

    /** "UNKNOWN, OUTSIDE" of BEGAN; an i that there is not is NONE, not refused. */
    private static void began() {
        for (int d : NO_DECREES) {
            refused("began(" + d + ", 0, 0, -1)", x -> x.began(d, 0, 0, -1), UNKNOWN);
            refused("began(" + d + ", 0, 2, -1)", x -> x.began(d, 0, 2, -1), UNKNOWN);
        }
        for (int k : NO_CORNERS) {
            refused("began(0, " + k + ", 0, -1)", x -> x.began(0, k, 0, -1), UNKNOWN);
            refused("began(0, " + k + ", -1, -1)", x -> x.began(0, k, -1, -1), UNKNOWN);
        }
        for (int way : NO_WAYS) {
            for (int i = -2; i <= 0; i++) {
                int which = i;
                refused("began(0, 0, " + way + ", " + i + ")", x -> x.began(0, 0, way, which), OUTSIDE);
            }
        }
        refusedByNew("began(0, 0, 0, -1)", x -> x.began(0, 0, 0, -1), UNKNOWN);
    }

    /** "n months (0 .. 60), each by q of a hundred (0 .. 100). OUTSIDE." */
    private static void odds() {
        for (int n : new int[] {-1, 61, LEAST, MOST}) {
            refused("odds(" + n + ", 0)", x -> x.odds(n, 0), OUTSIDE);
            refusedByNew("odds(" + n + ", 100)", x -> x.odds(n, 100), OUTSIDE);
        }
        for (int q : new int[] {-1, 101, LEAST, MOST}) {
            refused("odds(0, " + q + ")", x -> x.odds(0, q), OUTSIDE);
            refusedByNew("odds(60, " + q + ")", x -> x.odds(60, q), OUTSIDE);
        }
    }

    /** "SEEN (6 at most): so many SPOKE (0 .. 9). UNKNOWN, OUTSIDE, FULL (6)." */
    private static void see() {
        for (int d : NO_DECREES) {
            refused("see(" + d + ", 0, 0)", x -> x.see(d, 0, 0), UNKNOWN);
            refused("see(" + d + ", 0, 10)", x -> x.see(d, 0, 10), UNKNOWN);
        }
        for (int k : NO_CORNERS) {
            refused("see(1, " + k + ", 0)", x -> x.see(1, k, 0), UNKNOWN);
            refused("see(1, " + k + ", -1)", x -> x.see(1, k, -1), UNKNOWN);
        }
        for (int spoke : new int[] {-1, 10, LEAST, MOST}) {
            refused("see(1, 0, " + spoke + ")", x -> x.see(1, 0, spoke), OUTSIDE);
        }
        Supplier<GainsaidOnce> made = RefusalTest::allSeen;
        check.due("six seen", made.get().told(11), 6);
        twins.refused("six seen: see", made, x -> x.see(1, 0, 1), FULL);
        twins.refused("six seen: see of ten", made, x -> x.see(1, 0, 10), OUTSIDE);
        twins.refused("six seen: see at 3", made, x -> x.see(1, 3, 10), UNKNOWN);
        twins.refused("six seen: see of clause 7", made, x -> x.see(128, 0, 0), UNKNOWN);
        refusedByNew("see(0, 0, 0)", x -> x.see(0, 0, 0), UNKNOWN);
    }

    /** "THE BOOK (20 at most) tells DECREES (0 .. 255). OUTSIDE, FULL (20)." */
    private static void write() {
        for (int law : new int[] {-1, 256, LEAST, MOST}) {
            refused("write(" + law + ")", x -> x.write(law), OUTSIDE);
            twins.refused("whole book: write(" + law + ")", RefusalTest::wholeBook, x -> x.write(law), OUTSIDE);
        }
        check.due("whole book", wholeBook().told(12), 20);
        for (int law : new int[] {0, 255}) {
            twins.refused("whole book: write(" + law + ")", RefusalTest::wholeBook, x -> x.write(law), FULL);
        }
    }

    /** "THE SEED becomes v (0 .. 2147483647). OUTSIDE." */
    private static void seed() {
        for (int v : new int[] {-1, -2, LEAST}) {
            refused("seed(" + v + ")", x -> x.seed(v), OUTSIDE);
            refusedByNew("seed(" + v + ")", x -> x.seed(v), OUTSIDE);
        }
    }

    /** "IMAGES 0, 1. UNKNOWN." */
    private static void keep() {
        for (int i : new int[] {-1, 2, LEAST, MOST}) {
            refused("keep(" + i + ")", x -> x.keep(i), UNKNOWN);
            refusedByNew("keep(" + i + ")", x -> x.keep(i), UNKNOWN);
        }
    }

    /** "UNKNOWN, NOT: it was not kept." */
    private static void goBack() {
        for (int i : new int[] {-1, 2, LEAST, MOST}) {
            refused("goBack(" + i + ")", x -> x.goBack(i), UNKNOWN);
            refusedByNew("goBack(" + i + ")", x -> x.goBack(i), UNKNOWN);
        }
        refused("goBack(0)", x -> x.goBack(0), NOT);
        refusedByNew("goBack(0)", x -> x.goBack(0), NOT);
        refusedByNew("goBack(1)", x -> x.goBack(1), NOT);
    }

    private static void asked(String call, ToIntFunction<GainsaidOnce> how) {
        twins.asked(call, RefusalTest::busy, how);
        twins.asked("six seen: " + call, RefusalTest::allSeen, how);
    }

    /** "TRIED from now; nothing changes by it." */
    private static void triedChangesNothing() {
        for (int n = 0; n < 12; n++) {
            int decree = n % 3 == 0 ? 127 : 1 << n % 7;
            int k = n % 3;
            int way = n % 2;
            int months = 5 * n;
            asked("would " + n, x -> x.would(decree, k, way, k));
            asked("bestRound " + n, x -> x.bestRound(decree, k, way));
            asked("began " + n, x -> x.began(decree, k, way, k - 2));
            asked("hired " + n, x -> x.hired(decree, k, way, k % 2));
            asked("spoilt " + n, x -> x.spoilt(decree, k, way, k % 2));
            asked("odds " + n, x -> x.odds(months, months + 1));
            asked("behind " + n, x -> x.behind(k - 2));
        }
        asked("passed", x -> x.passed());
        asked("judge", x -> x.judge());
    }

    /** What is told of the town changes nothing either. */
    private static void askedChangesNothing() {
        for (int n = 0; n < 14; n++) {
            int what = n;
            asked("told(" + n + ")", x -> x.told(what));
            asked("hearer " + n, x -> x.hearer(what % 5, what % 4));
            asked("corner " + n, x -> x.corner(what % 3, what / 5));
        }
        asked("fault", x -> x.fault());
    }
}
