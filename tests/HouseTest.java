/** Promises 2 to 7 by ordinary houses: type, clear, house, room, flock, now. */
public final class HouseTest {
    private static final Due due = new Due("HouseTest");

    public static void main(String[] args) {
        houseTold();
        faultChangesNothing();
        roomAsked();
        roomBare();
        flockAsked();
        nowAsked();
        due.end();
    }

    private static void houseTold() {
        PlushFlocks x = due.told("r5 60;r1 0;d1 0;d0 1;f1 9 2;f0 1 0;n99;", 7);
        due.is("rooms", x.count(0), 2);
        due.is("flocks", x.count(1), 2);
        due.is("full", x.count(2), 99);
        due.is("letters", x.count(4), 0);
        due.is("holds 0", x.room(0, 0), 5);
        due.is("carpet 0", x.room(0, 1), 60);
        due.is("doors 0", x.room(0, 2), 2);
        due.is("holds 1", x.room(1, 0), 1);
        due.is("carpet 1", x.room(1, 1), 0);
        due.is("doors 1", x.room(1, 2), 1);
        due.is("home 0", x.flock(0, 0), 1);
        due.is("home 1", x.flock(1, 0), 0);
        due.is("hunger 0", x.flock(0, 1), 9);
        due.is("stuff 0", x.flock(0, 2), 2);
        due.told("  r  1  2  ;  n  7  ;  f  0  3  1  ;  ", 3);
        due.told("n1;r1 9;f0 1 0;r2 8;d1 0;f1 2 1;", 6);
        PlushFlocks blanks = due.told("r1 9;   ", 1);
        due.is("carpet 9", blanks.room(0, 1), 9);
        PlushFlocks most = due.told("r5 9;r5 9;r5 9;r5 9;r5 9;f0 1 0;f1 1 0;f2 1 0;f3 1 0;f4 1 0;", 10);
        due.is("five flocks", most.now(1), 0);
        PlushFlocks crowded = due.told("r1 0;f0 1 0;f0 1 0;f0 1 0;", 4);
        due.is("holds does not matter at first", crowded.room(0, 3), 7);
    }

    private static void faultChangesNothing() {
        PlushFlocks x = due.told("r2 9;r2 3;d0 1;f0 2 0;n5;", 5);
        x.step();
        x.keep(1);
        x.tells(1, 2);
        due.type(x, "r1 1;n7;f0 1 0;r1 1;d0 0;");
        due.is("house()", x.house(), -10 - 23);
        due.is("the text stays", x.clear(), 25);
        due.is("rooms", x.count(0), 2);
        due.is("full", x.count(2), 5);
        due.is("told", x.count(3), 1);
        due.is("carpet", x.room(0, 1), 7);
        due.is("undoable", x.now(5), 1);
        due.is("again(1)", x.again(1), 0);
        due.type(x, "r1 ");
        due.is("house()", x.house(), -13);
        due.type(x, "1;");
        due.is("house() with the rest", x.house(), 1);
        due.is("rooms", x.count(0), 1);
    }

    private static void roomAsked() {
        PlushFlocks x = due.told("r2 9;r1 0;r3 60;d0 2;d2 1;f0 2 0;f2 3 1;f0 1 2;", 8);
        due.is("holds", x.room(2, 0), 3);
        due.is("carpet", x.room(2, 1), 60);
        due.is("doors of 2", x.room(2, 2), 3);
        due.is("doors of 1", x.room(1, 2), 4);
        due.is("flocks in 0", x.room(0, 3), 5);
        due.is("flocks in 1", x.room(1, 3), 0);
        due.is("no dog", x.room(0, 4), 0);
        x.puts(2);
        due.is("a dog", x.room(2, 4), 1);
        due.is("no dog in 1", x.room(1, 4), 0);
        due.is("room(3, 0)", x.room(3, 0), PlushFlocks.BAD);
        due.is("room(-1, 0)", x.room(-1, 0), PlushFlocks.BAD);
        due.is("room(0, 6)", x.room(0, 6), PlushFlocks.BAD);
        due.is("room(0, -1)", x.room(0, -1), PlushFlocks.BAD);
        due.is("room(min, 0)", x.room(Integer.MIN_VALUE, 0), PlushFlocks.BAD);
        due.is("room(max, max)", x.room(Integer.MAX_VALUE, Integer.MAX_VALUE), PlushFlocks.BAD);
    }

    private static void roomBare() {
        PlushFlocks x = due.told("r2 60;r2 7;r2 0;d0 1;d1 2;f0 1 0;f1 3 0;", 7);
        due.is("4 by 1, then 56 by 4", x.room(0, 5), 18);
        due.is("7 by 3", x.room(1, 5), 3);
        due.is("bare as it is", x.room(2, 5), 0);
        due.is("nothing is changed", x.now(3), 67);
        due.is("nothing to undo", x.now(5), 0);
        PlushFlocks slow = due.told("r2 60;f0 1 0;", 2);
        due.is("60 steps", slow.room(0, 5), 60);
        PlushFlocks near = due.told("r2 59;r1 0;d0 1;f1 1 0;", 4);
        due.is("60 steps, one of them into it", near.room(0, 5), 60);
        PlushFlocks far = due.told("r2 60;r1 0;d0 1;f1 1 0;", 4);
        due.is("61 steps are too many", far.room(0, 5), PlushFlocks.NONE);
        PlushFlocks alone = due.told("r2 5;r1 1;f1 1 0;", 3);
        due.is("nobody comes", alone.room(0, 5), PlushFlocks.NONE);
        alone.puts(1);
        due.is("dogs stay", alone.room(1, 5), PlushFlocks.NONE);
    }

    private static void flockAsked() {
        PlushFlocks x = due.told("r2 9;r1 0;d0 1;f1 9 2;f0 4 1;n5;", 6);
        due.is("home", x.flock(0, 0), 1);
        due.is("hunger", x.flock(0, 1), 9);
        due.is("stuff", x.flock(0, 2), 2);
        due.is("place", x.flock(0, 3), 1);
        x.step();
        due.is("it went", x.flock(0, 3), 0);
        due.is("its home stays", x.flock(0, 0), 1);
        due.is("eaten", x.flock(1, 4), 4);
        due.is("lambs", x.flock(1, 5), 0);
        x.step();
        due.is("eaten is full less", x.flock(0, 4), 0);
        due.is("lamb", x.flock(0, 5), 1);
        due.is("flock(2, 0)", x.flock(2, 0), PlushFlocks.BAD);
        due.is("flock(-1, 0)", x.flock(-1, 0), PlushFlocks.BAD);
        due.is("flock(0, 6)", x.flock(0, 6), PlushFlocks.BAD);
        due.is("flock(0, -1)", x.flock(0, -1), PlushFlocks.BAD);
        due.is("flock(min, 3)", x.flock(Integer.MIN_VALUE, 3), PlushFlocks.BAD);
        due.is("flock(max, 3)", x.flock(Integer.MAX_VALUE, 3), PlushFlocks.BAD);
    }

    private static void nowAsked() {
        PlushFlocks x = due.told("r2 20;r2 5;r1 0;d0 1;d1 2;f0 4 1;f0 2 1;f2 3 0;n3;", 9);
        due.is("carpet", x.now(3), 25);
        x.drives(0, 1);
        due.is("strays", x.now(1), 1);
        x.undo();
        x.drives(1, 1);
        x.puts(2);
        due.is("strays", x.now(1), 2);
        due.is("dogs", x.now(2), 4);
        due.is("undoable", x.now(5), 2);
        x.step();
        due.is("strays", x.now(1), 6);
        due.is("carpet", x.now(3), 19);
        due.is("lambs", x.now(4), 1);
        x.dawn();
        due.is("night", x.now(0), 1);
        due.is("dogs", x.now(2), 0);
        due.is("now(6)", x.now(6), PlushFlocks.BAD);
        due.is("now(-1)", x.now(-1), PlushFlocks.BAD);
    }
}
