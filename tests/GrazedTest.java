/** Promises 18 to 21: tells, forget, can, ask. */
public final class GrazedTest {
    private static final Due due = new Due("GrazedTest");

    public static void main(String[] args) {
        tellsAndForgets();
        canOfNothingTold();
        canOfWhatIsTold();
        canNone();
        asks();
        due.end();
    }

    private static PlushFlocks flocks(String hungers) {
        StringBuilder text = new StringBuilder("r5 0;");
        for (int f = 0; f < hungers.length(); f++) {
            text.append("f0 ").append(hungers.charAt(f)).append(" 0;");
        }
        return due.told(text.toString(), hungers.length() + 1);
    }

    private static void can(PlushFlocks x, int ways, int inAll, int inSome, int asked) {
        due.is("ask()", x.ask(), asked);
        due.is("can(0)", x.can(0), ways);
        due.is("can(1)", x.can(1), inAll);
        due.is("can(2)", x.can(2), inSome);
        due.is("ask()", x.ask(), asked);
    }

    private static void tellsAndForgets() {
        PlushFlocks x = flocks("99999");
        due.is("forget()", x.forget(), 0);
        for (int i = 1; i <= 6; i++) {
            due.is("tells(31, 45)", x.tells(31, 45), i);
        }
        due.is("a seventh", x.tells(1, 0), PlushFlocks.FULL);
        due.is("a bad seventh", x.tells(0, 0), PlushFlocks.BAD);
        due.is("told", x.count(3), 6);
        can(x, 1, 31, 31, PlushFlocks.NONE);
        due.is("forget()", x.forget(), 6);
        due.is("told", x.count(3), 0);
        due.is("tells(1, 0)", x.tells(1, 0), 1);
        can(x, 16, 0, 30, 1);
    }

    private static void canOfNothingTold() {
        can(new PlushFlocks(), 1, 0, 0, PlushFlocks.NONE);
        can(flocks("5"), 2, 0, 1, 0);
        can(flocks("12345"), 32, 0, 31, 0);
    }

    private static void canOfWhatIsTold() {
        PlushFlocks x = flocks("12345");
        x.tells(31, 6);
        can(x, 3, 0, 31, 0);
        x.tells(5, 1);
        can(x, 1, 17, 17, PlushFlocks.NONE);
        x.step();
        x.dawn();
        can(x, 1, 17, 17, PlushFlocks.NONE);
        PlushFlocks same = flocks("3333");
        same.tells(12, 3);
        can(same, 8, 0, 15, 0);
        same.tells(3, 6);
        can(same, 2, 3, 15, 2);
    }

    private static void canNone() {
        PlushFlocks x = flocks("24");
        x.tells(3, 3);
        can(x, 0, PlushFlocks.NONE, 0, PlushFlocks.NONE);
        x.forget();
        x.tells(1, 2);
        x.tells(1, 0);
        can(x, 0, PlushFlocks.NONE, 0, PlushFlocks.NONE);
    }

    private static void asks() {
        PlushFlocks x = flocks("1112");
        x.tells(15, 2);
        can(x, 4, 0, 15, 0);
        x.tells(7, 2);
        can(x, 3, 0, 7, 0);
        PlushFlocks later = flocks("9111");
        later.tells(15, 1);
        can(later, 3, 0, 14, 1);
        PlushFlocks half = flocks("11122");
        half.tells(7, 1);
        can(half, 12, 0, 31, 3);
        half.tells(24, 2);
        can(half, 6, 0, 31, 3);
    }
}
