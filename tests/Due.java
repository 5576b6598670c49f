/** Holds answers against those that are due; each test class makes one and ends with it. */
final class Due {
    private final String title;
    private int right = 0;
    private int wrong = 0;

    Due(String title) {
        this.title = title;
    }

    void is(String call, long got, long want) {
        if (got == want) {
            right++;
        } else {
            wrong++;
            System.out.println(title + ": " + call + " answered " + got + ", due is " + want);
        }
    }

    void type(PlushFlocks x, String text) {
        int had = x.count(4);
        for (int i = 0; i < text.length(); i++) {
            is("type '" + text.charAt(i) + "'", x.type(text.charAt(i)), had + i + 1);
        }
    }

    /** A new object with a house that is told by a text without a fault. */
    PlushFlocks told(String text, int items) {
        PlushFlocks x = new PlushFlocks();
        tell(x, text, items);
        return x;
    }

    void tell(PlushFlocks x, String text, int items) {
        type(x, text);
        is("house() of " + text, x.house(), items);
    }

    void fault(PlushFlocks x, String text, int place) {
        type(x, text);
        is("house() of " + text, x.house(), -10 - place);
        is("letters kept of " + text, x.count(4), text.length());
        is("clear() of " + text, x.clear(), text.length());
    }

    void end() {
        System.out.println(title + ": " + right + " answers as due, " + wrong + " not");
        if (wrong != 0) {
            System.exit(1);
        }
    }
}
