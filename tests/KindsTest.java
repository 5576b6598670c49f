/** Promises 22 to 26: rate, keep, again, count, trace. */
public final class KindsTest {
    private static final Due due = new Due("KindsTest");

    public static void main(String[] args) {
        rates();
        ratesBelowNothing();
        imagesKept();
        imagesKeepAll();
        counts();
        due.end();
    }

    private static void rate(PlushFlocks x, int kind, int f, int want, long traced) {
        long before = x.trace();
        due.is("rate(" + kind + ", " + f + ")", x.rate(kind, f), want);
        due.is("traced by kind " + kind, x.trace() - before, traced);
    }

    private static void rates() {
        PlushFlocks x = due.told("r3 30;r2 11;d0 1;f0 4 0;f0 3 1;f1 2 0;n3;", 7);
        x.step();
        x.step();
        x.drives(1, 1);
        x.dawn();
        x.dawn();
        rate(x, 0, 1, 3, 1);
        rate(x, 1, 1, 3 + 17, 11);
        rate(x, 2, 1, 3 - 2, 101);
        rate(x, 3, 1, 2 * (3 + 17), 1011);
        rate(x, 4, 1, 3 - 2 + 1, 10101);
        rate(x, 5, 1, 3 + 2, 100001);
        rate(x, 1, 0, 4 + 26, 11);
        rate(x, 4, 2, 2 - 1 + 2, 10101);
        due.is("trace()", x.trace(), 1 + 11 + 101 + 1011 + 10101 + 100001 + 11 + 10101);
    }

    private static void ratesBelowNothing() {
        PlushFlocks x = due.told("r1 60;f0 9 0;n1;", 3);
        x.step();
        x.step();
        rate(x, 2, 0, -9, 101);
        rate(x, 4, 0, -9, 10101);
        x.undo();
        due.is("the trace goes on behind undo()", x.trace(), 10202);
        x.keep(0);
        x.again(0);
        due.is("the trace goes on behind again()", x.trace(), 10202);
        due.tell(x, "r1 5;f0 1 0;", 2);
        due.is("the trace goes on behind house()", x.trace(), 10202);
        rate(x, 5, 0, 1, 100001);
    }

    private static void imagesKept() {
        PlushFlocks x = due.told("r2 20;r2 0;d0 1;f0 4 0;", 4);
        x.dawn();
        due.is("keep(0)", x.keep(0), 1);
        x.dawn();
        due.is("keep(1)", x.keep(1), 2);
        x.dawn();
        x.step();
        due.is("again(0)", x.again(0), 1);
        due.is("carpet", x.now(3), 30);
        due.is("nothing to undo", x.now(5), 0);
        due.is("undo()", x.undo(), PlushFlocks.STATE);
        due.is("again(1)", x.again(1), 2);
        due.is("carpet", x.now(3), 40);
        due.is("again(0) once more", x.again(0), 1);
        x.step();
        due.is("the image stays as kept", x.again(0), 1);
        due.is("carpet", x.now(3), 30);
        due.is("keep(1) over the old", x.keep(1), 1);
        x.dawn();
        due.is("again(1)", x.again(1), 1);
    }

    private static void imagesKeepAll() {
        PlushFlocks x = due.told("r2 20;r2 0;d0 1;f0 7 0;n5;", 5);
        x.step();
        x.puts(1);
        x.puts(0);
        x.calls(1);
        x.drives(0, 1);
        x.tells(1, 7);
        x.keep(1);
        x.calls(0);
        x.step();
        x.step();
        x.dawn();
        x.forget();
        x.tells(1, 0);
        x.tells(1, 0);
        due.is("again(1)", x.again(1), 0);
        due.is("place", x.flock(0, 3), 1);
        due.is("eaten", x.flock(0, 4), 2);
        due.is("lambs", x.flock(0, 5), 1);
        due.is("dogs", x.now(2), 1);
        due.is("carpet 0", x.room(0, 1), 13);
        due.is("carpet 1", x.room(1, 1), 0);
        due.is("told is as it is", x.count(3), 2);
    }

    private static void counts() {
        PlushFlocks x = due.told("r2 20;r1 1;r1 1;f0 1 0;f2 2 0;n33;", 6);
        x.tells(3, 3);
        x.type(32);
        due.is("count(0)", x.count(0), 3);
        due.is("count(1)", x.count(1), 2);
        due.is("count(2)", x.count(2), 33);
        due.is("count(3)", x.count(3), 1);
        due.is("count(4)", x.count(4), 1);
        due.is("count(5)", x.count(5), PlushFlocks.BAD);
        due.is("count(-1)", x.count(-1), PlushFlocks.BAD);
    }
}
