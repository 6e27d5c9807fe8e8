import java.util.ArrayList;
import java.util.List;
import java.util.function.Supplier;
import java.util.function.ToIntFunction;

/**
 * Two objects made alike: one of them is refused or asked something, then both are asked the same, so that
 * whatever that call changed shows itself. No object comes to more than its 512 calls by it.
 */
final class Twins {
    private final Check check;

    Twins(Check check) {
        this.check = check;
    }

    void refused(String call, Supplier<GainsaidOnce> made, ToIntFunction<GainsaidOnce> refused, int due) {
        GainsaidOnce asked = made.get();
        check.due(call, refused.applyAsInt(asked), due);
        compare(call, askAll(asked), askAll(made.get()));
    }

    /** For calls that answer something and change nothing by it. */
    void asked(String call, Supplier<GainsaidOnce> made, ToIntFunction<GainsaidOnce> ask) {
        GainsaidOnce asked = made.get();
        int answer = ask.applyAsInt(asked);
        check.holds(call + " is answered", answer > GainsaidOnce.UNKNOWN);
        check.due(call + " again", ask.applyAsInt(asked), answer);
        compare(call, askAll(asked), askAll(made.get()));
    }

    /** As refused, for objects that have used up most of their calls. */
    void refusedWhenOld(String call, Supplier<GainsaidOnce> made, ToIntFunction<GainsaidOnce> refused, int due) {
        GainsaidOnce asked = made.get();
        check.due(call, refused.applyAsInt(asked), due);
        compare(call, askLittle(asked), askLittle(made.get()));
    }

    /** A text at fault leaves all but the text and fault() as it was; the objects have no text yet. */
    void atFault(String text, Supplier<GainsaidOnce> made, int due, int letter) {
        GainsaidOnce asked = made.get();
        Check.feed(asked, text);
        check.due("town of '" + text + "'", asked.town(), due);
        check.due("fault of '" + text + "'", asked.fault(), letter);
        compare("'" + text + "'", askAllButFault(asked), askAllButFault(made.get()));
    }

    private void compare(String after, List<String> got, List<String> want) {
        for (int i = 0; i < Math.max(got.size(), want.size()); i++) {
            String is = i < got.size() ? got.get(i) : "nothing";
            String was = i < want.size() ? want.get(i) : "nothing";
            if (!is.equals(was)) {
                check.holds("after " + after + ": " + is + ", without it: " + was, false);
                return;
            }
        }
        check.holds("nothing changed by " + after, !got.isEmpty());
    }

    private static List<String> askAll(GainsaidOnce x) {
        List<String> answers = new ArrayList<>();
        answers.add("fault() " + x.fault());
        answers.addAll(askAllButFault(x));
        return answers;
    }

    private static List<String> askAllButFault(GainsaidOnce x) {
        List<String> answers = new ArrayList<>();
        askState(x, answers);
        askTrials(x, answers);
        for (int i = 0; i < 4; i++) {
            answers.add("undo(1) " + x.undo(1));
            askDeeds(x, answers);
        }
        for (int i = 1; i >= 0; i--) {
            answers.add("goBack(" + i + ") " + x.goBack(i));
            askDeeds(x, answers);
        }
        askLater(x, answers);
        askText(x, answers);
        return answers;
    }

    private static List<String> askLittle(GainsaidOnce x) {
        List<String> answers = new ArrayList<>();
        askTold(x, answers, 4, 13);
        askSeed(x, answers);
        for (int i = 0; i < 3; i++) {
            answers.add("undo(1) " + x.undo(1));
            answers.add("told(5) " + x.told(5));
            answers.add("told(13) " + x.told(13));
        }
        return answers;
    }

    private static void askTold(GainsaidOnce x, List<String> answers, int from, int to) {
        for (int what = from; what <= to; what++) {
            answers.add("told(" + what + ") " + x.told(what));
        }
    }

    private static void askSeed(GainsaidOnce x, List<String> answers) {
        int was = x.seed(0);
        x.seed(was);
        answers.add("seed " + was);
    }

    private static void askState(GainsaidOnce x, List<String> answers) {
        askTold(x, answers, 0, 13);
        int hearers = x.told(2);
        for (int i = 0; i < 5 * hearers; i++) {
            answers.add("hearer(" + i / 5 + ", " + i % 5 + ") " + x.hearer(i / 5, i % 5));
        }
        int corners = x.told(1);
        for (int i = 0; i < 3 * corners; i++) {
            answers.add("corner(" + i / 3 + ", " + i % 3 + ") " + x.corner(i / 3, i % 3));
        }
        askSeed(x, answers);
    }

    private static void askTrials(GainsaidOnce x, List<String> answers) {
        int all = x.told(0);
        for (int start = 0; start < 4; start++) {
            for (int what = 0; what <= 2; what++) {
                answers.add("would of all from " + start + ", " + what + " "
                    + x.would(all, start / 2, start % 2, what));
            }
            answers.add("began from " + start + " " + x.began(0, start / 2, start % 2, -1));
        }
        for (int what = 0; what <= 1; what++) {
            answers.add("bestRound " + what + " " + x.bestRound(all, 0, what));
            answers.add("hired " + what + " " + x.hired(all, 0, 1, what));
            answers.add("spoilt " + what + " " + x.spoilt(all, 0, 1, what));
        }
        for (int i = -2; i < 4; i++) {
            answers.add("behind(" + i + ") " + x.behind(i));
        }
        answers.add("passed() " + x.passed());
        answers.add("judge() " + x.judge());
        answers.add("odds(2, 3) " + x.odds(2, 3));
    }

    private static void askDeeds(GainsaidOnce x, List<String> answers) {
        askTold(x, answers, 4, 13);
        int hearers = x.told(2);
        for (int h = 0; h < hearers; h++) {
            answers.add("hearer(" + h + ", 0) " + x.hearer(h, 0));
        }
        askSeed(x, answers);
    }

    private static void askLater(GainsaidOnce x, List<String> answers) {
        answers.add("drift(2) " + x.drift(2));
        askDeeds(x, answers);
        answers.add("see(0, 0, 0) " + x.see(0, 0, 0));
        answers.add("write(7) " + x.write(7));
        answers.add("judge() " + x.judge());
        answers.add("tear() " + x.tear());
    }

    /** A text that was begun is ended: had it lost or won a letter, it would be read otherwise. */
    private static void askText(GainsaidOnce x, List<String> answers) {
        answers.add("feed(';') " + x.feed(';'));
        answers.add("town() " + x.town());
        answers.add("fault() " + x.fault());
        askTold(x, answers, 0, 3);
    }
}
