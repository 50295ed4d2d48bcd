/** What the tests share: answers compared with what is due, and texts typed byte by byte. */
final class Check {
    private final String name;
    private String sentence = "";
    private int asked;
    private int wrong;

    Check(String name) {
        this.name = name;
    }

    /** The words of the document that the answers to come are about. */
    void says(String words) {
        sentence = "'" + words + "' ";
    }

    void due(String what, long got, long want) {
        asked++;
        if (got != want) {
            wrong++;
            System.out.println(name + ": " + sentence + what + " answered " + got + ", due is " + want);
        }
    }

    void holds(String what, boolean true_) {
        due(what, true_ ? 1 : 0, 1);
    }

    /** Ends the test: exit code 1 if an answer was not as due. */
    void ends() {
        System.out.println(name + ": " + asked + " answers, " + wrong + " wrong");
        if (wrong != 0 || asked == 0) {
            System.exit(1);
        }
    }

    static void types(RegretPit x, String text) {
        for (int i = 0; i < text.length(); i++) {
            x.type(text.charAt(i));
        }
    }

    /** A new pit as the text tells; what pit() answered must be as many ITEMS as there are ; in it. */
    static RegretPit told(String text) {
        RegretPit x = new RegretPit();
        types(x, text);
        int items = x.pit();
        if (items != text.chars().filter(c -> c == ';').count()) {
            throw new IllegalStateException("pit() answered " + items + " for " + text);
        }
        return x;
    }

    /** Two men quarrel by 50 again and again. */
    static void quarrels(RegretPit x, int a, int b, int times) {
        for (int i = 0; i < times; i++) {
            x.quarrel(a, b, 50);
        }
    }
}
