/** Promises 14 to 17: back, homing, apart, odds. */
public final class HomeTest {
    private static final Due due = new Due("HomeTest");

    public static void main(String[] args) {
        backByTheFewest();
        backRoundAbout();
        backFirstIsLowest();
        backNone();
        backLong();
        homingFewest();
        homingMany();
        homingNone();
        apartFewest();
        apartFirst();
        apartNone();
        oddsTold();
        due.end();
    }

    private static void back(PlushFlocks x, int fewest, int first) {
        due.is("back(0)", x.back(0), fewest);
        due.is("back(1)", x.back(1), first);
    }

    private static void backByTheFewest() {
        PlushFlocks x = due.told("r1 0;r1 0;r1 0;r1 0;d0 1;d1 2;d2 3;d3 0;f0 1 0;", 9);
        x.drives(0, 1);
        back(x, 1, 0);
        x.drives(0, 2);
        back(x, 2, 1);
        x.drives(0, 3);
        back(x, 1, 0);
        x.puts(0);
        back(x, PlushFlocks.NONE, PlushFlocks.NONE);
        x.calls(0);
        x.drives(0, 2);
        x.puts(1);
        back(x, 2, 3);
        due.is("nothing is changed", x.flock(0, 3), 2);
        due.is("nothing is changed", x.now(5), 7);
    }

    private static void backRoundAbout() {
        PlushFlocks x = due.told("r1 0;r1 0;r1 0;d0 1;d1 2;d2 0;f0 1 0;f1 1 0;", 8);
        x.drives(1, 2);
        x.drives(0, 1);
        x.drives(1, 0);
        back(x, 3, 2);
        PlushFlocks out = due.told("r1 0;r1 0;r1 0;d0 1;d0 2;f1 1 0;f0 1 0;", 7);
        out.drives(1, 2);
        out.drives(0, 0);
        back(out, 2, 1);
        out.puts(0);
        back(out, PlushFlocks.NONE, PlushFlocks.NONE);
        out.puts(2);
        out.calls(0);
        back(out, 2, 1);
    }

    private static void backFirstIsLowest() {
        PlushFlocks x = due.told("r5 0;r5 0;r5 0;r5 0;d0 1;d0 2;d1 3;d2 3;f0 1 0;f0 1 0;f3 1 0;", 11);
        x.drives(0, 2);
        x.drives(0, 3);
        back(x, 2, 1);
        x.drives(1, 1);
        back(x, 3, 1);
        x.undo();
        x.drives(2, 1);
        back(x, 3, 1);
        x.drives(0, 1);
        x.drives(0, 0);
        back(x, 1, 23);
        x.drives(1, 2);
        back(x, 2, 10);
    }

    private static void backNone() {
        PlushFlocks x = due.told("r1 0;r2 0;d0 1;f0 1 0;f0 1 0;", 5);
        x.drives(0, 1);
        back(x, PlushFlocks.NONE, PlushFlocks.NONE);
        x.drives(1, 1);
        back(x, PlushFlocks.NONE, PlushFlocks.NONE);
        PlushFlocks swapped = due.told("r1 0;r1 0;r1 0;d0 1;d0 2;d1 2;f0 1 0;f1 1 0;", 8);
        swapped.drives(0, 2);
        swapped.drives(1, 0);
        swapped.drives(0, 1);
        back(swapped, 3, 2);
        swapped.puts(2);
        back(swapped, PlushFlocks.NONE, PlushFlocks.NONE);
    }

    /** Flocks pass one another in a row with one free room and one side room. */
    private static void backLong() {
        PlushFlocks x = due.told("r1 0;r1 0;r1 0;r1 0;r1 0;d0 1;d1 2;d2 3;d1 4;f0 1 0;f2 1 0;f3 1 0;", 12);
        x.drives(1, 1);
        x.drives(1, 4);
        x.drives(0, 1);
        x.drives(0, 2);
        x.drives(1, 1);
        x.drives(1, 0);
        back(x, 6, 1);
    }

    private static void homingFewest() {
        PlushFlocks x = due.told("r2 9;r2 9;d0 1;f0 1 0;f1 1 0;", 5);
        due.is("none is needed", x.homing(), 0);
        x.puts(0);
        due.is("these alone then", x.homing(), 0);
        x.drives(0, 1);
        due.is("it flees home, but the other, too", x.homing(), PlushFlocks.NONE);
        PlushFlocks one = due.told("r2 9;r2 9;d0 1;f0 1 0;", 4);
        one.drives(0, 1);
        due.is("a dog behind it", one.homing(), 2);
        due.is("nothing is changed", one.flock(0, 3), 1);
        due.is("nothing is changed", one.now(2), 0);
        due.is("nothing is changed", one.now(3), 18);
        PlushFlocks two = due.told("r2 0;r2 9;r1 9;d0 2;d0 1;f2 1 0;", 6);
        two.drives(0, 0);
        due.is("it would go to 1, a dog there", two.homing(), 2);
    }

    private static void homingMany() {
        PlushFlocks x = due.told("r1 9;r2 9;r2 9;d0 1;d1 2;d0 2;f2 1 0;", 7);
        x.drives(0, 1);
        due.is("from 1 it flees to 0, but for a dog", x.homing(), 3);
        PlushFlocks either = due.told("r1 9;r2 0;r2 0;d0 1;d1 2;f1 1 0;f2 1 0;", 7);
        due.is("the bare one would go: a dog in 0", either.homing(), 1);
        PlushFlocks few = due.told("r1 3;r1 3;r2 0;d0 2;d1 2;f2 1 0;", 6);
        due.is("dogs in both", few.homing(), 3);
        PlushFlocks four = due.told("r3 9;r2 0;r1 0;r2 9;d1 3;d0 3;d1 2;f1 3 0;f3 8 0;", 9);
        due.is("each dog wants the next", four.homing(), 15);
        PlushFlocks five = due.told("r2 0;r3 0;r1 0;r2 0;r3 4;d1 4;d4 0;d2 0;d4 3;f0 8 0;f4 9 0;", 11);
        due.is("dogs in all", five.homing(), 31);
    }

    private static void homingNone() {
        PlushFlocks x = due.told("r2 9;r2 9;r1 0;d0 1;d1 2;f0 1 0;", 6);
        x.drives(0, 1);
        x.drives(0, 2);
        due.is("too far", x.homing(), PlushFlocks.NONE);
        due.is("no rooms", new PlushFlocks().homing(), 0);
    }

    private static void apart(PlushFlocks x, int rooms, int... places) {
        due.is("apart(-1)", x.apart(-1), rooms);
        for (int f = 0; f < places.length; f++) {
            due.is("apart(" + f + ")", x.apart(f), places[f]);
        }
        due.is("apart beyond", x.apart(places.length), PlushFlocks.BAD);
        due.is("apart(-2)", x.apart(-2), PlushFlocks.BAD);
        due.is("apart(min)", x.apart(Integer.MIN_VALUE), PlushFlocks.BAD);
    }

    private static void apartFewest() {
        apart(new PlushFlocks(), 0);
        apart(due.told("r1 0;", 1), 0);
        apart(due.told("r1 0;r2 0;f0 1 0;f0 1 0;", 4), 1, 1, 1);
        apart(due.told("r1 0;r2 0;r3 0;f0 1 0;f0 1 1;f0 1 0;f0 1 1;f0 1 1;", 8), 2, 1, 2, 1, 2, 2);
        apart(due.told("r1 0;r1 0;r1 0;f0 1 0;f0 1 1;f0 1 2;", 6), 3, 0, 1, 2);
        apart(due.told("r1 0;r1 0;r1 0;r1 0;r1 0;f0 1 0;f0 1 0;f0 1 0;f0 1 1;f0 1 0;", 10), 5, 0, 1, 2, 3, 4);
        apart(due.told("r2 0;r3 0;r4 0;f0 1 2;f0 1 2;f0 1 2;f0 1 2;", 7), 1, 2, 2, 2, 2);
    }

    private static void apartFirst() {
        apart(due.told("r5 0;r5 0;f1 1 1;f1 1 0;", 4), 2, 0, 1);
        apart(due.told("r1 0;r2 0;r1 0;f0 1 0;f0 1 0;f0 1 0;", 6), 2, 0, 1, 1);
        apart(due.told("r2 0;r1 0;f0 1 0;f0 1 1;f0 1 1;", 5), 2, 1, 0, 0);
        PlushFlocks x = due.told("r1 0;r2 0;d0 1;f0 1 0;f1 1 0;", 5);
        x.puts(1);
        apart(x, 1, 1, 1);
        due.is("nothing is changed", x.now(1), 0);
    }

    private static void apartNone() {
        int none = PlushFlocks.NONE;
        apart(due.told("r1 0;f0 1 0;f0 1 0;", 3), none, none, none);
        apart(due.told("r5 0;f0 1 0;f0 1 1;", 3), none, none, none);
        apart(due.told("r5 0;r5 0;f0 1 0;f0 1 1;f0 1 2;", 5), none, none, none, none);
        apart(due.told("r1 0;r2 0;f0 1 0;f0 1 0;f0 1 1;f0 1 1;", 6), none, none, none, none, none);
    }

    private static void odds(PlushFlocks x, int tenths, int k, int upper, int lower) {
        due.is("odds(" + tenths + ", " + k + ", 0)", x.odds(tenths, k, 0), upper);
        due.is("odds(" + tenths + ", " + k + ", 1)", x.odds(tenths, k, 1), lower);
    }

    private static void oddsTold() {
        PlushFlocks x = due.told("r5 0;f0 1 0;f0 1 0;f0 1 0;f0 1 0;f0 1 0;", 6);
        odds(x, 1, 0, 59049, 100000);
        odds(x, 5, 0, 1, 32);
        odds(x, 5, 1, 3, 16);
        odds(x, 5, 2, 1, 2);
        odds(x, 3, 1, 26411, 50000);
        odds(x, 9, 4, 40951, 100000);
        odds(x, 7, 5, 1, 1);
        PlushFlocks two = due.told("r5 0;f0 1 0;f0 1 0;", 3);
        odds(two, 2, 0, 16, 25);
        odds(two, 2, 1, 24, 25);
        odds(two, 2, 2, 1, 1);
    }
}
