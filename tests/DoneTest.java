/** Promises 8 to 13: step, drives, puts, calls, dawn, undo. */
public final class DoneTest {
    private static final Due due = new Due("DoneTest");

    public static void main(String[] args) {
        stepEats();
        stepBearsLambs();
        stepGoes();
        stepFlees();
        stepOneBehindAnother();
        drivesDone();
        dogsPutAndCalled();
        dawns();
        undone();
        due.end();
    }

    private static void stepEats() {
        PlushFlocks x = due.told("r3 10;f0 4 0;f0 3 0;f0 9 0;", 4);
        due.is("step()", x.step(), 10);
        due.is("all of its hunger", x.flock(0, 4), 4);
        due.is("all of its hunger", x.flock(1, 4), 3);
        due.is("what there is", x.flock(2, 4), 3);
        due.is("bare", x.room(0, 1), 0);
        due.is("step()", x.step(), 0);
        due.is("eaten stays", x.flock(2, 4), 3);
    }

    private static void stepBearsLambs() {
        PlushFlocks x = due.told("r2 60;f0 9 0;f0 3 0;n4;", 4);
        due.is("step()", x.step(), 12);
        due.is("two lambs at once", x.flock(0, 5), 2);
        due.is("the rest", x.flock(0, 4), 1);
        due.is("none yet", x.flock(1, 5), 0);
        due.is("step()", x.step(), 12);
        due.is("eaten 1 and 9", x.flock(0, 5), 4);
        due.is("eaten 1 and 9", x.flock(0, 4), 2);
        due.is("lamb", x.flock(1, 5), 1);
        due.is("eaten", x.flock(1, 4), 2);
        PlushFlocks even = due.told("r1 60;f0 9 0;n9;", 3);
        even.step();
        due.is("just full", even.flock(0, 5), 1);
        due.is("just full", even.flock(0, 4), 0);
        PlushFlocks late = due.told("r1 60;f0 9 0;n99;", 3);
        for (int i = 0; i < 11; i++) {
            due.is("no lambs at " + i, late.flock(0, 5), 0);
            due.is("eaten at " + i, late.flock(0, 4), Math.min(9 * i, 60 + 5 * (i > 6 ? i - 6 : 0)));
            if (i >= 6) {
                late.dawn();
            }
            late.step();
        }
    }

    private static void stepGoes() {
        PlushFlocks x = due.told("r1 0;r1 5;r1 5;r1 5;d0 1;d0 2;d0 3;f0 2 0;f1 1 0;", 9);
        due.is("step()", x.step(), 1);
        due.is("into the lowest that is not full", x.flock(0, 3), 2);
        due.is("it did nothing else", x.flock(0, 4), 0);
        PlushFlocks dog = due.told("r1 0;r1 5;r1 5;d0 1;d0 2;f0 2 0;", 6);
        dog.puts(1);
        dog.step();
        due.is("not to the dog", dog.flock(0, 3), 2);
        PlushFlocks last = due.told("r1 0;r1 0;r1 1;d0 1;d0 2;f0 2 0;", 6);
        last.step();
        due.is("1 is above 0", last.flock(0, 3), 2);
        PlushFlocks bare = due.told("r1 0;r1 0;r1 5;d0 1;d1 2;f0 2 0;", 6);
        due.is("step()", bare.step(), 0);
        due.is("no carpet beyond, it stays", bare.flock(0, 3), 0);
        PlushFlocks far = due.told("r1 0;r1 9;f0 2 0;", 3);
        far.step();
        due.is("no door, it stays", far.flock(0, 3), 0);
    }

    private static void stepFlees() {
        PlushFlocks x = due.told("r2 9;r1 0;r1 0;d0 2;d0 1;f0 2 0;f0 3 0;", 7);
        x.puts(0);
        due.is("nobody eats", x.step(), 0);
        due.is("the lowest, though bare", x.flock(0, 3), 1);
        due.is("the next, for that is full", x.flock(1, 3), 2);
        PlushFlocks caught = due.told("r2 9;r1 0;r1 0;d0 1;d0 2;f0 2 0;f1 3 0;", 7);
        caught.puts(0);
        caught.puts(2);
        due.is("step()", caught.step(), 0);
        due.is("none is left, it stays", caught.flock(0, 3), 0);
        due.is("and eats nothing", caught.flock(0, 4), 0);
        due.is("and eats nothing", caught.room(0, 1), 9);
    }

    private static void stepOneBehindAnother() {
        PlushFlocks x = due.told("r1 0;r1 3;r2 4;d0 1;d1 2;d0 2;f1 3 0;f0 2 0;f2 9 0;", 9);
        due.is("step()", x.step(), 7);
        due.is("the carpet of 1 is gone then", x.flock(1, 3), 2);
        PlushFlocks room = due.told("r1 0;r1 0;r1 7;d0 1;d0 2;d1 2;f2 3 0;f0 2 0;", 8);
        room.puts(2);
        room.step();
        due.is("the first flees into 1", room.flock(0, 3), 1);
        due.is("the second stays, the dog is in 2", room.flock(1, 3), 0);
        PlushFlocks free = due.told("r1 9;r1 0;r1 9;d0 1;d0 2;f0 3 0;f1 2 0;", 7);
        free.puts(0);
        free.step();
        due.is("it fled into 2, for 1 is full", free.flock(0, 3), 2);
        due.is("it stays, for the dog is in 0", free.flock(1, 3), 1);
        free.calls(0);
        free.step();
        due.is("it goes into what was left", free.flock(1, 3), 0);
    }

    private static void drivesDone() {
        PlushFlocks x = due.told("r2 9;r1 0;r2 0;d0 1;d1 2;f0 2 0;f2 3 0;", 7);
        due.is("drives(0, 1)", x.drives(0, 1), 0);
        due.is("place", x.flock(0, 3), 1);
        due.is("drives(0, 2)", x.drives(0, 2), 1);
        due.is("flocks in 2", x.room(2, 3), 3);
        x.puts(2);
        due.is("out of a room with a dog", x.drives(1, 1), 2);
        due.is("it eats nothing", x.flock(1, 4), 0);
        due.is("dogs stay", x.now(2), 4);
        due.is("carpets stay", x.now(3), 9);
    }

    private static void dogsPutAndCalled() {
        PlushFlocks x = due.told("r2 9;r1 0;r2 0;", 3);
        due.is("puts(1)", x.puts(1), 1);
        due.is("puts(1)", x.puts(1), PlushFlocks.STATE);
        due.is("puts(2)", x.puts(2), 2);
        due.is("dogs", x.now(2), 6);
        due.is("calls(0)", x.calls(0), PlushFlocks.STATE);
        due.is("calls(1)", x.calls(1), 1);
        due.is("calls(1)", x.calls(1), PlushFlocks.STATE);
        due.is("dogs", x.now(2), 4);
        due.is("calls(2)", x.calls(2), 0);
        for (int bad : new int[] {-1, 3, 32, 34, Integer.MIN_VALUE, Integer.MAX_VALUE}) {
            due.is("puts(" + bad + ")", x.puts(bad), PlushFlocks.BAD);
            due.is("calls(" + bad + ")", x.calls(bad), PlushFlocks.BAD);
        }
        PlushFlocks none = new PlushFlocks();
        due.is("no rooms: puts(0)", none.puts(0), PlushFlocks.BAD);
        due.is("no rooms: calls(0)", none.calls(0), PlushFlocks.BAD);
    }

    private static void dawns() {
        PlushFlocks x = due.told("r2 58;r1 0;r2 55;f0 2 0;", 4);
        x.puts(1);
        due.is("dawn()", x.dawn(), 1);
        due.is("60 at most", x.room(0, 1), 60);
        due.is("5 more", x.room(1, 1), 5);
        due.is("60", x.room(2, 1), 60);
        due.is("dogs are called", x.now(2), 0);
        due.is("dawn()", x.dawn(), 2);
        due.is("60 at most", x.room(0, 1), 60);
        due.is("5 more", x.room(1, 1), 10);
        due.is("no room that is not told has carpet", x.now(3), 130);
        PlushFlocks none = new PlushFlocks();
        for (int night = 1; night <= 300; night++) {
            due.is("dawn()", none.dawn(), night);
        }
        due.is("no carpet without rooms", none.now(3), 0);
        due.is("night", none.now(0), 300);
    }

    private static void undone() {
        PlushFlocks x = due.told("r2 9;r2 3;d0 1;f0 5 0;n4;", 5);
        x.step();
        x.puts(0);
        x.drives(0, 1);
        x.dawn();
        x.puts(1);
        x.calls(1);
        due.is("undoable", x.now(5), 6);
        due.is("undo calls", x.undo(), 5);
        due.is("dogs", x.now(2), 2);
        due.is("undo puts", x.undo(), 4);
        due.is("dogs", x.now(2), 0);
        due.is("undo dawn", x.undo(), 3);
        due.is("dogs", x.now(2), 1);
        due.is("night", x.now(0), 0);
        due.is("carpet", x.now(3), 7);
        due.is("undo drives", x.undo(), 2);
        due.is("place", x.flock(0, 3), 0);
        due.is("undo puts", x.undo(), 1);
        due.is("undo step", x.undo(), 0);
        due.is("carpet", x.now(3), 12);
        due.is("eaten", x.flock(0, 4), 0);
        due.is("lambs", x.flock(0, 5), 0);
        due.is("undo()", x.undo(), PlushFlocks.STATE);
        x.rate(0, 0);
        x.tells(1, 3);
        x.step();
        x.undo();
        due.is("the trace goes on", x.trace(), 1);
        due.is("told stays", x.count(3), 1);
    }
}
