/** Counts the answers of one test program and tells those that are not as due. */
final class Check {
    private final String name;
    private int right;
    private int wrong;

    Check(String name) {
        this.name = name;
    }

    void due(String call, long got, long want) {
        if (got == want) {
            right++;
            return;
        }
        wrong++;
        System.out.println(name + ": " + call + " answered " + got + ", due is " + want);
    }

    void holds(String what, boolean is) {
        due(what, is ? 1 : 0, 1);
    }

    void end() {
        System.out.println(name + ": " + right + " right, " + wrong + " wrong");
        if (wrong != 0) {
            System.exit(1);
        }
    }

    static void feed(GainsaidOnce x, String text) {
        for (int i = 0; i < text.length(); i++) {
            x.feed(text.charAt(i));
        }
    }

    static GainsaidOnce told(String text) {
        GainsaidOnce x = new GainsaidOnce();
        feed(x, text);
        x.town();
        return x;
    }
}
