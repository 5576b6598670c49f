/** Promises 14 to 17 at their boundaries (back, homing, apart, odds): each method holds a sentence of the document. */
public final class HomeEdgesTest {
    private static final int BAD = PlushFlocks.BAD, NONE = PlushFlocks.NONE;
    private static final String FIVE_ROOMS = "r5 0;".repeat(5);
    private static final Due due = new Due("HomeEdgesTest");

    public static void main(String[] args) {
        backIsAskedFor0And1();
        backOfNoStraysIs0();
        backOfOneDrive();
        backIsNoneByHolds();
        backIsNoneByDogs();
        backLeavesDogsStaying();
        backAsksForRoom();
        backIsTheFewest();
        backOfManyDrives();
        backOfTheFarthestWay();
        firstIsTheLowestFlock();
        firstIsTheLowestRoom();
        firstIsOneByWhichItCanBe();
        backChangesNothing();
        homingOfNoDogs();
        homingOfTheLastRoom();
        homingOfAllRooms();
        homingIsNone();
        homingIsForNoStrayAtAll();
        homingIsOfTheseDogsAlone();
        homingIsBehindOneStep();
        homingHeedsHolds();
        homingChangesNothing();
        apartAsksForAFlock();
        apartOfNoFlocks();
        apartHeedsHolds();
        apartHeedsStuffs();
        apartIsNone();
        apartIsOfTheFewest();
        apartIsTheFirstOfSeveral();
        apartOfAllRooms();
        apartIsOfAllWays();
        oddsTake0To10();
        oddsTakeKOf0To5();
        oddsTakeWhatOf0And1();
        oddsOfNone();
        oddsOfAll();
        oddsOfNoFlocks();
        oddsAreOfKAtMost();
        oddsAreInLeastTerms();
        due.end();
    }

    private static void back(PlushFlocks x, int fewest, int first) {
        due.is("back(0)", x.back(0), fewest);
        due.is("back(1)", x.back(1), first);
    }

    private static void backIsAskedFor0And1() {
        due.sentence("back: what = 0, 1. BAD");
        PlushFlocks x = due.told(FIVE_ROOMS + "d0 1;f0 1 0;", 7);
        x.drives(0, 1);
        due.is("back(-1)", x.back(-1), BAD);
        due.is("back(0)", x.back(0), 1);
        due.is("back(1)", x.back(1), 0);
        due.is("back(2)", x.back(2), BAD);
        due.refusesFar("back", x::back, BAD);
        due.is("back(2) at home", new PlushFlocks().back(2), BAD);
    }

    private static void backOfNoStraysIs0() {
        due.sentence("BACK: the fewest DRIVES (none). The first: NONE (none are STRAYS)");
        back(new PlushFlocks(), 0, NONE);
        back(due.told(FIVE_ROOMS, 5), 0, NONE);
        back(due.told(FIVE_ROOMS + "d0 1;f0 1 0;f1 1 0;", 8), 0, NONE);
        back(due.told("r1 0;f0 1 0;f0 1 0;", 3), 0, NONE);
        PlushFlocks x = due.told("r1 0;r1 0;d0 1;f0 1 0;", 4);
        x.puts(0);
        back(x, 0, NONE);
        x.calls(0);
        x.drives(0, 1);
        x.drives(0, 0);
        back(x, 0, NONE);
    }

    private static void backOfOneDrive() {
        due.sentence("10 times the FLOCK and the ROOM");
        for (int home = 0; home < 5; home++) {
            int other = (home + 1) % 5;
            String flock = "f" + home + " 1 0;";
            PlushFlocks x = due.told(FIVE_ROOMS + "d" + home + " " + other + ";" + flock.repeat(5), 11);
            for (int f = 0; f < 5; f++) {
                x.drives(f, other);
                back(x, 1, 10 * f + home);
                x.undo();
            }
        }
    }

    private static void backIsNoneByHolds() {
        due.sentence("BACK: NONE. The first: NONE (no BACK); the home holds as many as it HOLDS");
        PlushFlocks x = due.told("r1 0;r2 0;d0 1;f0 1 0;f0 1 0;", 5);
        x.drives(1, 1);
        back(x, NONE, NONE);
        x.drives(0, 1);
        back(x, NONE, NONE);
        PlushFlocks two = due.told("r2 0;r2 0;d0 1;f0 1 0;f0 1 0;f0 1 0;", 6);
        two.drives(2, 1);
        back(two, NONE, NONE);
        two.undo();
        back(two, 0, NONE);
    }

    private static void backIsNoneByDogs() {
        due.sentence("BACK: NONE. The first: NONE (no BACK); a DOG");
        PlushFlocks x = due.told(FIVE_ROOMS + "d0 1;d1 2;f0 1 0;", 8);
        x.drives(0, 1);
        x.drives(0, 2);
        back(x, 2, 1);
        x.puts(0);
        back(x, NONE, NONE);
        x.calls(0);
        x.puts(1);
        back(x, NONE, NONE);
        x.calls(1);
        x.puts(2);
        back(x, 2, 1);
    }

    private static void backLeavesDogsStaying() {
        due.sentence("DRIVES (one behind another, as told, DOGS staying)");
        PlushFlocks x = due.told(FIVE_ROOMS + "d0 1;d1 2;d2 3;d3 4;d4 0;f0 1 0;", 11);
        x.drives(0, 1);
        x.drives(0, 2);
        back(x, 2, 1);
        x.puts(1);
        back(x, 3, 3);
        x.puts(4);
        back(x, NONE, NONE);
    }

    private static void backAsksForRoom() {
        due.sentence("DRIVES (one behind another, as told): HOLDS on the way");
        PlushFlocks x = due.told("r1 0;r1 0;r1 0;r1 0;d0 1;d1 2;d1 3;f0 1 0;f1 1 0;", 9);
        x.drives(1, 3);
        x.drives(0, 1);
        x.drives(0, 2);
        x.drives(1, 1);
        back(x, 4, 13);
        x.drives(1, 3);
        back(x, 3, 1);
        PlushFlocks wide = due.told("r1 0;r2 0;r1 0;r1 0;d0 1;d1 2;d1 3;f0 1 0;f1 1 0;", 9);
        wide.drives(0, 1);
        wide.drives(0, 2);
        back(wide, 2, 1);
    }

    private static void backIsTheFewest() {
        due.sentence("BACK: the fewest DRIVES by which all FLOCKS are in their HOME");
        PlushFlocks x = due.told(FIVE_ROOMS + "d0 1;d1 2;d2 3;d3 4;d4 0;f0 1 0;", 11);
        int[] fewest = {0, 1, 2, 2, 1, 0};
        int[] first = {NONE, 0, 1, 4, 0, NONE};
        for (int i = 0; i <= 5; i++) {
            back(x, fewest[i], first[i]);
            x.drives(0, (i + 1) % 5);
        }
        PlushFlocks all = due.told(FIVE_ROOMS + "d0 1;" + "f0 1 0;".repeat(5), 11);
        for (int f = 0; f < 5; f++) {
            all.drives(f, 1);
            back(all, f + 1, 0);
        }
    }

    /** The longest way that a search among houses of 1 and 2 HOLDS came upon. */
    private static void backOfManyDrives() {
        due.sentence("BACK: the fewest DRIVES (many)");
        String doors = "d0 3;d1 2;d2 3;d2 4;d3 4;";
        String flocks = "f4 1 0;f3 1 0;f2 1 0;f0 1 0;f0 1 0;";
        PlushFlocks x = due.told("r2 0;r2 0;r1 0;r1 0;r1 0;" + doors + flocks, 15);
        int[] drives = {21, 2, 1, 12, 33, 34, 13, 10, 22, 23, 32, 24, 31, 43, 42, 23, 20, 43, 2, 4, 42, 13, 41, 12, 23};
        for (int i = 0; i < drives.length; i++) {
            due.is("back(0)", x.back(0), i);
            x.drives(drives[i] / 10, drives[i] % 10);
        }
        for (int left = drives.length; left > 0; left--) {
            due.is("back(0)", x.back(0), left);
            int first = x.back(1);
            x.drives(first / 10, first % 10);
        }
        back(x, 0, NONE);
    }

    /** Of the 3125 ways in which five flocks can be in five rooms one alone is as far away as this. */
    private static void backOfTheFarthestWay() {
        due.sentence("BACK: the fewest DRIVES (home is the farthest of all ways)");
        PlushFlocks x = due.told(FIVE_ROOMS + "d0 1;d1 2;d2 3;d3 4;" + "f0 1 0;".repeat(5), 14);
        for (int f = 0; f < 5; f++) {
            for (int r = 1; r < 5; r++) {
                x.drives(f, r);
            }
        }
        back(x, 20, 3);
        x.puts(0);
        back(x, NONE, NONE);
    }

    private static void firstIsTheLowestFlock() {
        due.sentence("The first of them: the lowest FLOCK by which it can be");
        PlushFlocks x = due.told(FIVE_ROOMS + "d0 1;d1 2;" + "f1 1 0;".repeat(5), 12);
        x.drives(4, 0);
        back(x, 1, 41);
        x.drives(2, 2);
        back(x, 2, 21);
        x.drives(1, 0);
        back(x, 3, 11);
        x.drives(0, 2);
        back(x, 4, 1);
    }

    private static void firstIsTheLowestRoom() {
        due.sentence("The first of them: then the lowest ROOM to which it goes");
        PlushFlocks x = due.told(FIVE_ROOMS + "d0 1;d0 2;d0 3;d4 1;d4 2;d4 3;f0 1 0;", 12);
        x.drives(0, 3);
        x.drives(0, 4);
        back(x, 2, 1);
        x.puts(1);
        back(x, 2, 2);
        x.puts(2);
        back(x, 2, 3);
    }

    private static void firstIsOneByWhichItCanBe() {
        due.sentence("The first of them: the lowest by which it can be (all of them home by the fewest)");
        PlushFlocks dead = due.told(FIVE_ROOMS + "d4 0;d4 3;d3 2;f2 1 0;", 9);
        dead.drives(0, 3);
        dead.drives(0, 4);
        back(dead, 2, 3);
        PlushFlocks waits = due.told("r1 0;r1 0;r1 0;d0 1;d1 2;f1 1 0;f2 1 0;", 7);
        waits.drives(0, 0);
        waits.drives(1, 1);
        back(waits, 2, 12);
        PlushFlocks aside = due.told("r1 0;r1 0;r1 0;r1 0;d0 1;d1 2;d1 3;f1 1 0;f0 1 0;", 9);
        aside.drives(0, 3);
        aside.drives(1, 1);
        aside.drives(1, 2);
        aside.drives(0, 1);
        due.is("one stray alone", aside.now(1), 2);
        back(aside, 4, 3);
    }

    private static void backChangesNothing() {
        due.sentence("(As things are NOW; nothing is changed.) BACK");
        PlushFlocks x = due.told("r1 9;r1 9;r1 9;d0 1;d1 2;f0 1 0;", 6);
        x.drives(0, 1);
        x.drives(0, 2);
        x.puts(2);
        back(x, 2, 1);
        back(x, 2, 1);
        due.is("place", x.flock(0, 3), 2);
        due.is("dogs", x.now(2), 4);
        due.is("carpet", x.now(3), 27);
        due.is("known", x.now(5), 3);
    }

    private static void homingOfNoDogs() {
        due.sentence("HOMING: of all sets of ROOMS (none in it)");
        due.is("no rooms", new PlushFlocks().homing(), 0);
        due.is("no flocks", due.told(FIVE_ROOMS, 5).homing(), 0);
        due.is("it eats", due.told("r1 1;r1 9;d0 1;f0 1 0;", 4).homing(), 0);
        due.is("it can't go", due.told("r1 0;r1 9;f0 1 0;", 3).homing(), 0);
        PlushFlocks x = due.told("r1 9;r1 0;d0 1;f0 1 0;", 4);
        x.drives(0, 1);
        due.is("it goes home", x.homing(), 0);
    }

    private static void homingOfTheLastRoom() {
        due.sentence("HOMING: of all sets of ROOMS (the last in it)");
        PlushFlocks x = due.told("r1 9;r1 9;r1 9;r1 9;r1 9;d0 4;f0 1 0;", 7);
        x.drives(0, 4);
        due.is("a dog in 4", x.homing(), 16);
        PlushFlocks first = due.told("r1 9;r1 9;d0 1;f1 1 0;", 4);
        first.drives(0, 0);
        due.is("a dog in 0", first.homing(), 1);
    }

    private static void homingOfAllRooms() {
        due.sentence("HOMING: of all sets of ROOMS (all in it)");
        due.is("homing()", due.told("r2 0;r3 0;r1 0;r2 0;r3 4;d1 4;d4 0;d2 0;d4 3;f0 8 0;f4 9 0;", 11).homing(), 31);
    }

    private static void homingIsNone() {
        due.sentence("HOMING: NONE");
        PlushFlocks far = due.told("r1 9;r1 9;r1 9;d0 1;d1 2;f0 1 0;", 6);
        far.drives(0, 1);
        due.is("one door", far.homing(), 2);
        far.drives(0, 2);
        due.is("two doors", far.homing(), NONE);
        PlushFlocks full = due.told("r1 9;r2 9;d0 1;f0 1 0;f0 1 0;", 5);
        full.drives(0, 1);
        due.is("the home is full", full.homing(), NONE);
    }

    private static void homingIsForNoStrayAtAll() {
        due.sentence("HOMING: such that no FLOCK is a STRAY");
        PlushFlocks x = due.told("r5 9;r5 9;r5 9;d0 1;d2 1;f0 1 0;f1 1 0;f2 1 0;", 8);
        due.is("all at home", x.homing(), 0);
        x.drives(0, 1);
        due.is("its dog drives another out", x.homing(), NONE);
        x.undo();
        x.drives(2, 1);
        due.is("its dog drives another out", x.homing(), NONE);
        PlushFlocks two = due.told("r5 9;r5 9;r5 9;r5 9;d0 1;d2 3;f0 1 0;f2 1 0;", 8);
        two.drives(0, 1);
        two.drives(1, 3);
        due.is("a dog for each", two.homing(), 10);
    }

    private static void homingIsOfTheseDogsAlone() {
        due.sentence("HOMING: sets of ROOMS in which DOGS could be (these alone then)");
        PlushFlocks x = due.told("r1 9;r1 9;d0 1;f0 1 0;", 4);
        x.drives(0, 1);
        due.is("no dogs now", x.homing(), 2);
        x.puts(0);
        due.is("a dog in its home now", x.homing(), 2);
        x.puts(1);
        due.is("dogs in both now", x.homing(), 2);
        x.calls(0);
        due.is("the dog is where it should be", x.homing(), 2);
        PlushFlocks home = due.told("r1 9;r1 9;d0 1;f0 1 0;", 4);
        home.puts(0);
        due.is("a dog would drive it out now", home.homing(), 0);
    }

    private static void homingIsBehindOneStep() {
        due.sentence("HOMING: behind a STEP");
        PlushFlocks late = due.told("r1 9;r1 1;d0 1;f0 1 0;", 4);
        late.drives(0, 1);
        due.is("it would eat first", late.homing(), 2);
        PlushFlocks soon = due.told("r1 1;r1 9;d0 1;f0 1 0;", 4);
        due.is("it would go later", soon.homing(), 0);
    }

    private static void homingHeedsHolds() {
        due.sentence("HOMING: behind a STEP (FLOCK by FLOCK, by HOLDS)");
        PlushFlocks x = due.told("r1 9;r1 0;r1 9;d0 1;d1 2;f0 1 0;f1 1 0;", 7);
        x.drives(1, 2);
        x.drives(0, 1);
        due.is("the first leaves the home of the second", x.homing(), 4);
        PlushFlocks turned = due.told("r1 9;r1 0;r1 9;d0 1;d1 2;f1 1 0;f0 1 0;", 7);
        turned.drives(0, 2);
        turned.drives(1, 1);
        due.is("the first finds its home full", turned.homing(), NONE);
    }

    private static void homingChangesNothing() {
        due.sentence("(As things are NOW; nothing is changed.) HOMING");
        PlushFlocks x = due.told("r1 9;r1 9;d0 1;f0 3 0;n1;", 5);
        x.drives(0, 1);
        x.puts(0);
        due.is("homing()", x.homing(), 2);
        due.is("place", x.flock(0, 3), 1);
        due.is("eaten", x.flock(0, 4), 0);
        due.is("lambs", x.flock(0, 5), 0);
        due.is("dogs", x.now(2), 1);
        due.is("carpet", x.now(3), 18);
        due.is("known", x.now(5), 2);
    }

    private static void apart(PlushFlocks x, int rooms, int... places) {
        due.is("apart(-1)", x.apart(-1), rooms);
        for (int f = 0; f < places.length; f++) {
            due.is("apart(" + f + ")", x.apart(f), places[f]);
        }
    }

    private static void apartAsksForAFlock() {
        due.sentence("APART: how many ROOMS (f = -1), where a FLOCK is. BAD");
        for (int flocks = 0; flocks <= 5; flocks++) {
            PlushFlocks x = due.told("r5 0;" + "f0 1 0;".repeat(flocks), flocks + 1);
            due.is("apart(-2)", x.apart(-2), BAD);
            due.is("apart(-1)", x.apart(-1), flocks == 0 ? 0 : 1);
            for (int f = 0; f < flocks; f++) {
                due.is("apart(" + f + ")", x.apart(f), 0);
            }
            due.is("apart(" + flocks + ")", x.apart(flocks), BAD);
            due.is("apart(6)", x.apart(6), BAD);
            due.refusesFar("apart", x::apart, BAD);
        }
        PlushFlocks none = due.told("r1 0;f0 1 0;f0 1 0;", 3);
        due.is("apart(2), though there is no way", none.apart(2), BAD);
        due.is("apart(-2), though there is no way", none.apart(-2), BAD);
    }

    private static void apartOfNoFlocks() {
        due.sentence("APART: of all ways to put all FLOCKS into ROOMS (no FLOCKS)");
        apart(new PlushFlocks(), 0);
        apart(due.told("r1 0;", 1), 0);
        apart(due.told(FIVE_ROOMS, 5), 0);
    }

    private static void apartHeedsHolds() {
        due.sentence("APART: no ROOM holding more than it HOLDS");
        for (int holds = 1; holds <= 5; holds++) {
            for (int flocks = 1; flocks <= holds; flocks++) {
                String room = "r" + holds + " 0;";
                due.is("apart(-1)", due.told(room + "f0 1 0;".repeat(flocks), flocks + 1).apart(-1), 1);
            }
            String rooms = "r" + holds + " 0;r5 0;";
            PlushFlocks x = due.told(rooms + "f0 1 0;".repeat(5), 7);
            due.is("apart(-1)", x.apart(-1), 1);
            due.is("apart(0) of " + holds, x.apart(0), holds == 5 ? 0 : 1);
        }
        apart(due.told("r4 0;r1 0;" + "f0 1 0;".repeat(5), 7), 2, 0, 0, 0, 0, 1);
        apart(due.told("r1 0;r4 0;" + "f0 1 0;".repeat(5), 7), 2, 0, 1, 1, 1, 1);
    }

    private static void apartHeedsStuffs() {
        due.sentence("APART: none with two STUFFS");
        apart(due.told("r5 0;r5 0;f0 1 0;f0 1 1;", 4), 2, 0, 1);
        apart(due.told("r5 0;r5 0;r5 0;f0 1 2;f0 1 0;f0 1 1;f0 1 2;f0 1 0;", 8), 3, 0, 1, 2, 0, 1);
        apart(due.told("r5 0;r5 0;f0 1 2;f0 1 2;f0 1 0;", 5), 2, 0, 0, 1);
        apart(due.told("r5 0;r5 0;f0 1 1;f0 1 1;", 4), 1, 0, 0);
    }

    private static void apartIsNone() {
        due.sentence("APART: NONE");
        apart(due.told("r1 0;f0 1 0;f0 1 0;", 3), NONE, NONE, NONE);
        apart(due.told("r4 0;" + "f0 1 0;".repeat(5), 6), NONE, NONE, NONE, NONE, NONE, NONE);
        apart(due.told("r2 0;r2 0;" + "f0 1 0;".repeat(5), 7), NONE, NONE, NONE, NONE, NONE, NONE);
        apart(due.told("r5 0;f0 1 0;f0 1 1;", 3), NONE, NONE, NONE);
        apart(due.told("r5 0;r5 0;f0 1 0;f0 1 1;f0 1 2;", 5), NONE, NONE, NONE, NONE);
        apart(due.told("r1 0;r3 0;f0 1 0;f0 1 0;f0 1 1;f0 1 1;", 6), NONE, NONE, NONE, NONE, NONE);
    }

    private static void apartIsOfTheFewest() {
        due.sentence("APART: that of fewest ROOMS in which any are");
        apart(due.told("r1 0;r1 0;r2 0;f0 1 0;f0 1 0;", 5), 1, 2, 2);
        apart(due.told("r1 0;r1 0;r1 0;r1 0;r5 0;" + "f0 1 1;".repeat(5), 10), 1, 4, 4, 4, 4, 4);
        apart(due.told("r1 0;r2 0;r3 0;f0 1 0;f0 1 0;f0 1 0;f0 1 0;", 7), 2, 0, 2, 2, 2);
        apart(due.told("r1 0;r2 0;r2 0;f0 1 0;f0 1 1;f0 1 1;f0 1 0;", 7), 2, 1, 2, 2, 1);
    }

    private static void apartIsTheFirstOfSeveral() {
        due.sentence("APART: of several the first (FLOCK by FLOCK, the lowest ROOM)");
        apart(due.told("r5 0;r5 0;r5 0;f2 1 0;f2 1 0;", 5), 1, 0, 0);
        apart(due.told("r2 0;r2 0;f0 1 0;f0 1 0;f0 1 0;", 5), 2, 0, 0, 1);
        apart(due.told("r1 0;r2 0;f0 1 0;f0 1 0;f0 1 0;", 5), 2, 0, 1, 1);
        apart(due.told("r3 0;r3 0;f0 1 1;f0 1 0;f0 1 1;f0 1 0;f0 1 1;", 7), 2, 0, 1, 0, 1, 0);
        apart(due.told("r2 0;r3 0;f0 1 1;f0 1 0;f0 1 1;f0 1 0;f0 1 1;", 7), 2, 1, 0, 1, 0, 1);
    }

    private static void apartOfAllRooms() {
        due.sentence("APART: how many ROOMS (all)");
        apart(due.told("r1 0;".repeat(5) + "f0 1 0;".repeat(5), 10), 5, 0, 1, 2, 3, 4);
        apart(due.told("r1 0;".repeat(5) + "f0 1 0;f0 1 1;f0 1 2;f0 1 1;f0 1 0;", 10), 5, 0, 1, 2, 3, 4);
    }

    private static void apartIsOfAllWays() {
        due.sentence("APART: of all ways to put all FLOCKS (not as they are now)");
        PlushFlocks x = due.told("r1 0;r2 0;d0 1;f0 1 0;f1 1 0;", 5);
        apart(x, 1, 1, 1);
        x.puts(1);
        apart(x, 1, 1, 1);
        due.is("places stay", x.now(1), 0);
        PlushFlocks closed = due.told("r1 0;r2 0;f0 1 0;f0 1 0;", 4);
        apart(closed, 1, 1, 1);
        due.is("places stay", closed.room(0, 3), 3);
    }

    private static void odds(PlushFlocks x, int tenths, int k, int upper, int lower) {
        due.is("odds(" + tenths + ", " + k + ", 0)", x.odds(tenths, k, 0), upper);
        due.is("odds(" + tenths + ", " + k + ", 1)", x.odds(tenths, k, 1), lower);
    }

    private static PlushFlocks flocks(int many) {
        return due.told("r5 0;" + "f0 1 0;".repeat(many), many + 1);
    }

    private static void oddsTake0To10() {
        due.sentence("ODDS by x (0 .. 10). BAD");
        PlushFlocks x = flocks(1);
        int[] uppers = {1, 9, 4, 7, 3, 1, 2, 3, 1, 1, 0};
        int[] lowers = {1, 10, 5, 10, 5, 2, 5, 10, 5, 10, 1};
        for (int tenths = 0; tenths <= 10; tenths++) {
            odds(x, tenths, 0, uppers[tenths], lowers[tenths]);
        }
        odds(x, -1, 0, BAD, BAD);
        odds(x, 11, 0, BAD, BAD);
        due.refusesFar("odds", tenths -> x.odds(tenths, 0, 0), BAD);
        due.is("of no flocks", new PlushFlocks().odds(11, 0, 0), BAD);
    }

    private static void oddsTakeKOf0To5() {
        due.sentence("ODDS by k (0 .. 5). BAD");
        PlushFlocks x = flocks(5);
        int[] uppers = {1, 3, 1, 13, 31, 1};
        int[] lowers = {32, 16, 2, 16, 32, 1};
        for (int k = 0; k <= 5; k++) {
            odds(x, 5, k, uppers[k], lowers[k]);
        }
        odds(x, 5, -1, BAD, BAD);
        odds(x, 5, 6, BAD, BAD);
        due.refusesFar("odds", k -> x.odds(5, k, 0), BAD);
        odds(flocks(1), 5, 5, 1, 1);
        odds(new PlushFlocks(), 5, 6, BAD, BAD);
    }

    private static void oddsTakeWhatOf0And1() {
        due.sentence("ODDS: upper (what = 0), lower number (1). BAD");
        PlushFlocks x = flocks(1);
        int[] answers = {BAD, BAD, 7, 10, BAD, BAD};
        for (int what = -2; what <= 3; what++) {
            due.is("odds(3, 0, " + what + ")", x.odds(3, 0, what), answers[what + 2]);
        }
        due.refusesFar("odds", what -> x.odds(3, 0, what), BAD);
        due.is("all bad", x.odds(-1, 6, 2), BAD);
    }

    private static void oddsOfNone() {
        due.sentence("ODDS: each FLOCK strays by x of 10 (none does by 0)");
        for (int many = 0; many <= 5; many++) {
            odds(flocks(many), 0, 0, 1, 1);
            odds(flocks(many), 0, 5, 1, 1);
        }
    }

    private static void oddsOfAll() {
        due.sentence("ODDS: each FLOCK strays by x of 10 (all do by 10)");
        for (int many = 1; many <= 5; many++) {
            for (int k = 0; k <= 5; k++) {
                odds(flocks(many), 10, k, k >= many ? 1 : 0, 1);
            }
        }
    }

    private static void oddsOfNoFlocks() {
        due.sentence("ODDS: that k at most do (no FLOCKS)");
        odds(new PlushFlocks(), 10, 0, 1, 1);
        odds(new PlushFlocks(), 3, 2, 1, 1);
    }

    private static void oddsAreOfKAtMost() {
        due.sentence("ODDS: that k at most do");
        PlushFlocks x = flocks(3);
        odds(x, 1, 0, 729, 1000);
        odds(x, 1, 1, 243, 250);
        odds(x, 1, 2, 999, 1000);
        odds(x, 1, 3, 1, 1);
        odds(x, 1, 4, 1, 1);
        odds(flocks(5), 9, 4, 40951, 100000);
        odds(flocks(5), 9, 5, 1, 1);
    }

    private static void oddsAreInLeastTerms() {
        due.sentence("ODDS: a fraction, in least terms");
        odds(flocks(5), 1, 0, 59049, 100000);
        odds(flocks(5), 9, 0, 1, 100000);
        odds(flocks(5), 2, 0, 1024, 3125);
        odds(flocks(5), 5, 0, 1, 32);
        odds(flocks(4), 6, 0, 16, 625);
        odds(flocks(2), 10, 1, 0, 1);
        odds(flocks(2), 10, 2, 1, 1);
    }
}
