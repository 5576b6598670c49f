import java.util.function.IntUnaryOperator;

/** Holds answers against those that are due; each test class makes one and ends with it. */
final class Due {
    /** No call takes one of these; to a program that loses their upper bits many look fair. */
    static final int[] FAR = {Integer.MIN_VALUE, Integer.MIN_VALUE + 1, -(1 << 30), -65536, -65535, -256, -255,
        256, 257, 65536, 65537, 1 << 30, Integer.MAX_VALUE - 1, Integer.MAX_VALUE};

    private final String title;
    private String sentence = "";
    private int sentences = 0;
    private int right = 0;
    private int wrong = 0;

    Due(String title) {
        this.title = title;
    }

    /** The sentence of the document that the answers behind this hold. */
    void sentence(String words) {
        sentence = " [" + words + "]";
        sentences++;
    }

    void is(String call, long got, long want) {
        if (got == want) {
            right++;
        } else {
            wrong++;
            System.out.println(title + sentence + ": " + call + " answered " + got + ", due is " + want);
        }
    }

    void refusesFar(String call, IntUnaryOperator asked, int answer) {
        for (int far : FAR) {
            is(call + " of " + far, asked.applyAsInt(far), answer);
        }
    }

    void type(PlushFlocks x, String text) {
        int had = x.count(4);
        for (int i = 0; i < text.length(); i++) {
            is("type '" + text.charAt(i) + "'", x.type(text.charAt(i)), had + i + 1);
        }
    }

    /** A new object with a house that is told by a text without a fault. */
    PlushFlocks told(String text, int items) {
        PlushFlocks x = new PlushFlocks();
        tell(x, text, items);
        return x;
    }

    void tell(PlushFlocks x, String text, int items) {
        type(x, text);
        is("house() of '" + text + "'", x.house(), items);
    }

    /** A text with a fault, told to a new object. */
    void fault(String text, int place) {
        PlushFlocks x = new PlushFlocks();
        type(x, text);
        is("house() of '" + text + "'", x.house(), -10 - place);
        is("letters kept of '" + text + "'", x.count(4), text.length());
    }

    void end() {
        String of = sentences == 0 ? "" : " of " + sentences + " sentences";
        System.out.println(title + ": " + right + " answers" + of + " as due, " + wrong + " not");
        if (wrong != 0) {
            System.exit(1);
        }
    }
}
