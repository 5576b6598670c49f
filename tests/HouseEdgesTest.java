/**
 * Promises 1, 4 (all anew), 5, 6, 7, 25 at their boundaries (a new object, house, room, flock, now, count):
 * each method holds a sentence of the document.
 */
public final class HouseEdgesTest {
    private static final int BAD = PlushFlocks.BAD, STATE = PlushFlocks.STATE, NONE = PlushFlocks.NONE;
    private static final String FIVE_ROOMS = "r5 60;".repeat(5);
    private static final Due due = new Due("HouseEdgesTest");

    public static void main(String[] args) {
        newObjectHasNothing();
        newObjectAnswersAll();
        newObjectDoesAll();
        flocksAreHomeAtFirst();
        flocksMayBeMoreThanHoldsAtFirst();
        nothingIsDoneAtFirst();
        anewItIsAsTold();
        anewNothingIsTold();
        anewImagesAreGone();
        anewNothingCanBeUndone();
        anewTheTraceGoesOn();
        aRoomThatThereIs();
        aRoomIsAskedFor0To5();
        roomsBeyondAre0To4();
        flocksInARoomAre0To5();
        aDogIsOrNot();
        bareIs0Steps();
        bareIs60StepsAtMost();
        bareIsNone();
        bareIsFirst();
        bareChangesNothing();
        aFlockThatThereIs();
        aFlockIsAskedFor0To5();
        nowIsAskedFor0To5();
        nowOfNothing();
        nowOfTheMost();
        nowOfAllLambs();
        countIsAskedFor0To4();
        countOfTheMost();
        due.end();
    }

    private static void newObjectHasNothing() {
        due.sentence("As told; no ROOMS, no FLOCKS");
        PlushFlocks x = new PlushFlocks();
        for (int what = 0; what <= 4; what++) {
            due.is("count(" + what + ")", x.count(what), what == 2 ? 20 : 0);
        }
        for (int what = 0; what <= 5; what++) {
            due.is("now(" + what + ")", x.now(what), 0);
        }
        due.is("trace()", x.trace(), 0);
        for (int i = 0; i < 5; i++) {
            due.is("room(" + i + ", 0)", x.room(i, 0), BAD);
            due.is("flock(" + i + ", 0)", x.flock(i, 0), BAD);
        }
    }

    private static void newObjectAnswersAll() {
        due.sentence("no ROOMS, no FLOCKS (what is asked)");
        PlushFlocks x = new PlushFlocks();
        due.is("back(0)", x.back(0), 0);
        due.is("back(1)", x.back(1), NONE);
        due.is("homing()", x.homing(), 0);
        due.is("apart(-1)", x.apart(-1), 0);
        due.is("apart(0)", x.apart(0), BAD);
        due.is("odds(10, 0, 0)", x.odds(10, 0, 0), 1);
        due.is("odds(10, 0, 1)", x.odds(10, 0, 1), 1);
        due.is("can(0)", x.can(0), 1);
        due.is("can(1)", x.can(1), 0);
        due.is("can(2)", x.can(2), 0);
        due.is("ask()", x.ask(), NONE);
        due.is("rate(0, 0)", x.rate(0, 0), PlushFlocks.NO);
    }

    private static void newObjectDoesAll() {
        due.sentence("no ROOMS, no FLOCKS (what is done)");
        PlushFlocks x = new PlushFlocks();
        due.is("clear()", x.clear(), 0);
        due.is("undo()", x.undo(), STATE);
        due.is("drives(0, 0)", x.drives(0, 0), BAD);
        due.is("puts(0)", x.puts(0), BAD);
        due.is("calls(0)", x.calls(0), BAD);
        due.is("tells(1, 0)", x.tells(1, 0), BAD);
        due.is("tells(0, 0)", x.tells(0, 0), BAD);
        due.is("forget()", x.forget(), 0);
        due.is("again(0)", x.again(0), STATE);
        due.is("keep(0)", x.keep(0), 0);
        due.is("step()", x.step(), 0);
        due.is("dawn()", x.dawn(), 1);
        due.is("undo()", x.undo(), 1);
        due.is("again(0)", x.again(0), 0);
        due.is("house()", x.house(), 0);
    }

    private static void flocksAreHomeAtFirst() {
        due.sentence("Each FLOCK is in its HOME at first");
        PlushFlocks x = due.told(FIVE_ROOMS + "f4 1 0;f0 1 0;f2 1 0;f4 1 0;f1 1 0;", 10);
        int[] homes = {4, 0, 2, 4, 1};
        for (int f = 0; f < 5; f++) {
            due.is("place of " + f, x.flock(f, 3), homes[f]);
        }
        due.is("strays", x.now(1), 0);
    }

    private static void flocksMayBeMoreThanHoldsAtFirst() {
        due.sentence("HOLDS of it does not matter then");
        PlushFlocks x = due.told("r1 3;" + "f0 1 0;".repeat(5), 6);
        due.is("flocks in it", x.room(0, 3), 31);
        due.is("holds", x.room(0, 0), 1);
        due.is("three of five eat", x.step(), 3);
        due.is("none has to go", x.room(0, 3), 31);
    }

    private static void nothingIsDoneAtFirst() {
        due.sentence("CARPETS are as told, nothing is EATEN, no LAMBS, no DOGS, NIGHT 0");
        PlushFlocks x = due.told("r1 0;r2 60;f1 9 0;n1;", 4);
        due.is("carpet", x.room(0, 1), 0);
        due.is("carpet", x.room(1, 1), 60);
        due.is("eaten", x.flock(0, 4), 0);
        due.is("lambs", x.flock(0, 5), 0);
        due.is("dogs", x.now(2), 0);
        due.is("night", x.now(0), 0);
    }

    /** A house in which there is something of everything. */
    private static PlushFlocks lived() {
        PlushFlocks x = due.told("r2 50;r2 3;d0 1;f0 5 1;f1 2 2;n3;", 6);
        x.step();
        x.keep(0);
        x.dawn();
        x.keep(1);
        x.drives(0, 1);
        x.puts(0);
        x.puts(1);
        x.tells(1, 5);
        x.rate(5, 0);
        return x;
    }

    private static void anewItIsAsTold() {
        due.sentence("Read anew: as told (what is not told as at first)");
        PlushFlocks x = lived();
        due.tell(x, "r2 50;r2 3;f0 5 1;", 3);
        due.is("rooms", x.count(0), 2);
        due.is("flocks", x.count(1), 1);
        due.is("full", x.count(2), 20);
        due.is("a door that is not told", x.room(0, 2), 0);
        due.is("carpet", x.now(3), 53);
        due.is("place", x.flock(0, 3), 0);
        due.is("eaten", x.flock(0, 4), 0);
        due.is("lambs", x.now(4), 0);
        due.is("dogs", x.now(2), 0);
        due.is("night", x.now(0), 0);
    }

    private static void anewNothingIsTold() {
        due.sentence("Read anew: nothing TOLD");
        PlushFlocks x = lived();
        due.tell(x, "r2 50;f0 5 1;f0 4 1;", 3);
        due.is("told", x.count(3), 0);
        due.is("can(0)", x.can(0), 4);
        due.is("forget()", x.forget(), 0);
    }

    private static void anewImagesAreGone() {
        due.sentence("Read anew: IMAGES are gone");
        PlushFlocks x = lived();
        due.is("house() of nothing", x.house(), 0);
        due.is("again(0)", x.again(0), STATE);
        due.is("again(1)", x.again(1), STATE);
        x.keep(1);
        due.is("again(0)", x.again(0), STATE);
        due.is("again(1)", x.again(1), 0);
    }

    private static void anewNothingCanBeUndone() {
        due.sentence("Read anew: nothing can be UNDONE");
        PlushFlocks x = lived();
        due.is("known", x.now(5), 5);
        due.tell(x, "r2 50;", 1);
        due.is("known", x.now(5), 0);
        due.is("undo()", x.undo(), STATE);
        x.dawn();
        due.is("undo()", x.undo(), 0);
        due.is("undo()", x.undo(), STATE);
    }

    private static void anewTheTraceGoesOn() {
        due.sentence("Read anew: THE TRACE goes on");
        PlushFlocks x = lived();
        due.is("house() of nothing", x.house(), 0);
        due.is("trace()", x.trace(), 100001);
    }

    private static void aRoomThatThereIs() {
        due.sentence("Of a ROOM. BAD (there is no such thing)");
        for (int rooms = 0; rooms <= 5; rooms++) {
            PlushFlocks x = due.told("r3 7;".repeat(rooms), rooms);
            for (int r = -2; r <= 6; r++) {
                due.is("room(" + r + ", 0) of " + rooms, x.room(r, 0), r >= 0 && r < rooms ? 3 : BAD);
            }
            due.refusesFar("room", r -> x.room(r, 0), BAD);
            due.is("room(32, 0)", x.room(32, 0), BAD);
            due.is("room(64, 4)", x.room(64, 4), BAD);
        }
    }

    private static void aRoomIsAskedFor0To5() {
        due.sentence("Of a ROOM: 0 .. 5. BAD (a number is not as told)");
        PlushFlocks x = due.told("r3 7;", 1);
        int[] answers = {BAD, BAD, 3, 7, 0, 0, 0, NONE, BAD, BAD};
        for (int what = -2; what <= 7; what++) {
            due.is("room(0, " + what + ")", x.room(0, what), answers[what + 2]);
        }
        due.refusesFar("room", what -> x.room(0, what), BAD);
        due.is("both bad", x.room(1, 6), BAD);
    }

    private static void roomsBeyondAre0To4() {
        due.sentence("2 ROOMS beyond DOORS (bits)");
        PlushFlocks x = due.told("r1 0;".repeat(5) + "d0 1;d0 2;d0 3;d4 0;", 9);
        due.is("all others", x.room(0, 2), 30);
        due.is("the lowest", x.room(4, 2), 1);
        PlushFlocks last = due.told("r1 0;".repeat(5) + "d4 0;d4 1;d4 2;d4 3;", 9);
        due.is("all others", last.room(4, 2), 15);
        due.is("none", due.told("r1 0;", 1).room(0, 2), 0);
    }

    private static void flocksInARoomAre0To5() {
        due.sentence("3 FLOCKS in it (bits)");
        PlushFlocks x = due.told("r5 0;r1 0;d0 1;" + "f0 1 0;".repeat(5), 8);
        due.is("all", x.room(0, 3), 31);
        due.is("none", x.room(1, 3), 0);
        x.drives(4, 1);
        due.is("all but the last", x.room(0, 3), 15);
        due.is("the last", x.room(1, 3), 16);
    }

    private static void aDogIsOrNot() {
        due.sentence("4 whether a DOG is (1, 0)");
        PlushFlocks x = due.told(FIVE_ROOMS, 5);
        x.puts(4);
        x.puts(0);
        int[] dogs = {1, 0, 0, 0, 1};
        for (int r = 0; r < 5; r++) {
            due.is("room(" + r + ", 4)", x.room(r, 4), dogs[r]);
        }
    }

    private static void bareIs0Steps() {
        due.sentence("BARE of a ROOM: behind how many STEPS (0 .. )");
        PlushFlocks x = due.told("r1 0;r1 1;f1 9 0;", 3);
        due.is("it is bare", x.room(0, 5), 0);
        due.is("one step", x.room(1, 5), 1);
        x.puts(0);
        due.is("bare with a dog", x.room(0, 5), 0);
    }

    private static void bareIs60StepsAtMost() {
        due.sentence("behind how many STEPS ( .. 60)");
        due.is("60 by 1", due.told("r1 60;f0 1 0;", 2).room(0, 5), 60);
        due.is("59 by 1", due.told("r1 59;f0 1 0;", 2).room(0, 5), 59);
        due.is("60 and a way", due.told("r1 60;r1 0;d0 1;f1 1 0;", 4).room(0, 5), NONE);
        due.is("59 and a way", due.told("r1 59;r1 0;d0 1;f1 1 0;", 4).room(0, 5), 60);
        due.is("61 behind another", due.told("r1 30;r1 30;d0 1;f1 1 0;", 4).room(0, 5), NONE);
        due.is("60 behind another", due.told("r1 30;r1 29;d0 1;f1 1 0;", 4).room(0, 5), 60);
    }

    private static void bareIsNone() {
        due.sentence("BARE: NONE");
        due.is("no flocks", due.told("r1 1;", 1).room(0, 5), NONE);
        due.is("no door", due.told("r1 1;r1 0;f1 9 0;", 3).room(0, 5), NONE);
        PlushFlocks dog = due.told("r1 1;f0 9 0;", 2);
        due.is("without the dog", dog.room(0, 5), 1);
        dog.puts(0);
        due.is("with the dog, who stays", dog.room(0, 5), NONE);
    }

    private static void bareIsFirst() {
        due.sentence("BARE: behind how many STEPS, if just these are, its CARPET is 0 first");
        PlushFlocks x = due.told("r2 10;f0 4 0;f0 1 0;", 3);
        due.is("10 by 5", x.room(0, 5), 2);
        x.step();
        due.is("5 by 5", x.room(0, 5), 1);
        x.dawn();
        due.is("10 by 5 again", x.room(0, 5), 2);
        x.step();
        x.step();
        due.is("bare now", x.room(0, 5), 0);
    }

    private static void bareChangesNothing() {
        due.sentence("(As things are NOW; nothing is changed.) BARE");
        PlushFlocks x = due.told("r2 60;r1 9;r1 1;d0 1;f0 4 0;n4;", 6);
        due.is("room(1, 5)", x.room(1, 5), 19);
        due.is("room(0, 5)", x.room(0, 5), 15);
        due.is("room(2, 5)", x.room(2, 5), NONE);
        due.is("carpet", x.now(3), 70);
        due.is("place", x.flock(0, 3), 0);
        due.is("eaten", x.flock(0, 4), 0);
        due.is("lambs", x.flock(0, 5), 0);
        due.is("known", x.now(5), 0);
    }

    private static void aFlockThatThereIs() {
        due.sentence("Of a FLOCK. BAD (there is no such thing)");
        for (int flocks = 0; flocks <= 5; flocks++) {
            PlushFlocks x = due.told("r1 0;" + "f0 6 2;".repeat(flocks), flocks + 1);
            for (int f = -2; f <= 6; f++) {
                due.is("flock(" + f + ", 1) of " + flocks, x.flock(f, 1), f >= 0 && f < flocks ? 6 : BAD);
            }
            due.refusesFar("flock", f -> x.flock(f, 1), BAD);
            due.is("flock(32, 1)", x.flock(32, 1), BAD);
            due.is("flock(64, 1)", x.flock(64, 1), BAD);
        }
    }

    private static void aFlockIsAskedFor0To5() {
        due.sentence("Of a FLOCK: 0 .. 5. BAD (a number is not as told)");
        PlushFlocks x = due.told("r1 0;r2 9;d0 1;f1 6 2;f1 3 0;n4;", 6);
        x.step();
        x.drives(0, 0);
        int[] answers = {BAD, BAD, 1, 6, 2, 0, 2, 1, BAD, BAD};
        for (int what = -2; what <= 7; what++) {
            due.is("flock(0, " + what + ")", x.flock(0, what), answers[what + 2]);
        }
        due.refusesFar("flock", what -> x.flock(0, what), BAD);
        due.is("both bad", x.flock(2, 6), BAD);
    }

    private static void nowIsAskedFor0To5() {
        due.sentence("now: 0 .. 5. BAD");
        PlushFlocks x = due.told("r1 0;r2 9;d0 1;f1 6 2;f1 3 0;n4;", 6);
        x.step();
        x.drives(1, 0);
        x.dawn();
        x.puts(0);
        int[] answers = {BAD, BAD, 1, 2, 1, 10, 1, 4, BAD, BAD};
        for (int what = -2; what <= 7; what++) {
            due.is("now(" + what + ")", x.now(what), answers[what + 2]);
        }
        due.refusesFar("now", x::now, BAD);
    }

    private static void nowOfNothing() {
        due.sentence("now: 0 NIGHT, 1 STRAYS, 2 DOGS, 3 all CARPET, 4 all LAMBS, 5 how many (none of each)");
        PlushFlocks x = due.told("r1 0;f0 1 0;", 2);
        for (int what = 0; what <= 5; what++) {
            due.is("now(" + what + ")", x.now(what), 0);
        }
    }

    private static void nowOfTheMost() {
        due.sentence("now: 1 STRAYS, 2 DOGS (bits of ROOMS), 3 all CARPET, 5 how many may be UNDONE (all)");
        PlushFlocks x = due.told(FIVE_ROOMS + "d0 1;f0 1 0;f0 1 0;f0 1 0;f0 1 0;f0 1 0;", 11);
        for (int f = 0; f < 5; f++) {
            x.drives(f, 1);
        }
        for (int r = 0; r < 5; r++) {
            x.puts(r);
        }
        due.is("strays", x.now(1), 31);
        due.is("dogs", x.now(2), 31);
        due.is("carpet", x.now(3), 300);
        due.is("known", x.now(5), 10);
    }

    private static void nowOfAllLambs() {
        due.sentence("now: 4 all LAMBS");
        PlushFlocks x = due.told(FIVE_ROOMS + "f0 9 0;f1 9 0;f2 9 0;f3 9 0;f4 9 0;n1;", 11);
        for (int night = 1; night <= 12; night++) {
            x.step();
            x.dawn();
            due.is("lambs", x.now(4), Math.min(5 * 99, 45 * night));
        }
    }

    private static void countIsAskedFor0To4() {
        due.sentence("count: 0 .. 4. BAD");
        PlushFlocks x = due.told("r1 0;r2 9;f1 6 2;n4;", 4);
        x.tells(1, 6);
        x.tells(1, 6);
        x.tells(1, 6);
        due.type(x, "12345");
        int[] answers = {BAD, BAD, 2, 1, 4, 3, 5, BAD, BAD};
        for (int what = -2; what <= 6; what++) {
            due.is("count(" + what + ")", x.count(what), answers[what + 2]);
        }
        due.refusesFar("count", x::count, BAD);
    }

    private static void countOfTheMost() {
        due.sentence("count: 0 ROOMS, 1 FLOCKS, 2 FULL, 3 TOLD, 4 letters of THE TEXT (the most of each)");
        PlushFlocks x = due.told(FIVE_ROOMS + "f4 1 0;".repeat(5) + "n99;", 11);
        for (int i = 0; i < 6; i++) {
            x.tells(31, 0);
        }
        due.type(x, "r".repeat(120));
        int[] most = {5, 5, 99, 6, 120};
        for (int what = 0; what < 5; what++) {
            due.is("count(" + what + ")", x.count(what), most[what]);
        }
    }
}
