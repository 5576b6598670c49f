/** Promises 8 to 13 at their boundaries (step to undo): each method holds a sentence of the document. */
public final class DoneEdgesTest {
    private static final int BAD = PlushFlocks.BAD, STATE = PlushFlocks.STATE;
    private static final String FIVE_ROOMS = "r1 0;".repeat(5);
    private static final Due due = new Due("DoneEdgesTest");

    public static void main(String[] args) {
        stepOfNothingEatsNothing();
        carpetAbove0IsEaten();
        hungerOrWhatThereIsIsEaten();
        theMostIsEaten();
        fullOrMoreBearsALamb();
        asOftenAsFullBearsLambs();
        lambsAre99AtMost();
        lambsLeapTo99AtMost();
        fullIsLessBeyond99Lambs();
        oneOfThreeAlone();
        flockByFlock();
        fleesIntoTheLowest();
        fleesWhereFewerAre();
        fleesFromDogsAlone();
        fleesOrStays();
        goesIntoTheLowest();
        goesWhereCarpetIs();
        goesWhereFewerAre();
        goesWhereNoDogIs();
        goesOrStays();
        aFlockThatIsDriven();
        aRoomThatIsDrivenInto();
        drivenThroughADoor();
        drivenWhereFewerAre();
        drivenWhereNoDogIs();
        drivenAnswersTheRoomLeft();
        drivenBadComesFirst();
        aRoomForADog();
        aDogInEachRoom();
        oneDogInARoom();
        aDogThatIsCalled();
        noDogThatIsCalled();
        dawnIs5More();
        dawnIs60AtMost();
        dawnCallsAllDogs();
        nightIs1More();
        nightIs999AtMost();
        undoneIsNone();
        undoneIsAnyOfFive();
        undoneIsTheLatest();
        undoneAre10AtMost();
        undoneIsNotWhatWasRefused();
        undoneIsNothingElse();
        due.end();
    }

    private static void stepOfNothingEatsNothing() {
        due.sentence("A STEP: how much is eaten in it (nothing)");
        PlushFlocks x = new PlushFlocks();
        due.is("step()", x.step(), 0);
        due.is("it was done", x.now(5), 1);
        PlushFlocks rooms = due.told("r5 60;", 1);
        due.is("step()", rooms.step(), 0);
        due.is("carpet", rooms.room(0, 1), 60);
        due.is("step()", due.told("r5 0;f0 9 0;", 2).step(), 0);
    }

    private static void carpetAbove0IsEaten() {
        due.sentence("a ROOM without a DOG whose CARPET is above 0");
        PlushFlocks x = due.told("r1 1;r1 9;d0 1;f0 1 0;", 4);
        due.is("1 is above 0", x.step(), 1);
        due.is("it is still there", x.flock(0, 3), 0);
        due.is("0 is not", x.step(), 0);
        due.is("it went", x.flock(0, 3), 1);
    }

    private static void hungerOrWhatThereIsIsEaten() {
        due.sentence("eats HUNGER of it, or what there is: its EATEN is so much more");
        for (int carpet = 0; carpet <= 11; carpet++) {
            PlushFlocks x = due.told("r1 " + carpet + ";f0 5 0;", 2);
            due.is("step() on " + carpet, x.step(), Math.min(5, carpet));
            due.is("eaten", x.flock(0, 4), Math.min(5, carpet));
            due.is("carpet", x.room(0, 1), Math.max(0, carpet - 5));
            due.is("step()", x.step(), Math.max(0, Math.min(5, carpet - 5)));
            due.is("eaten", x.flock(0, 4), Math.min(10, carpet));
        }
    }

    private static void theMostIsEaten() {
        due.sentence("A STEP: how much is eaten in it (the most)");
        PlushFlocks x = due.told("r5 60;" + "f0 9 0;".repeat(5), 6);
        due.is("step()", x.step(), 45);
        due.is("what is left", x.step(), 15);
        due.is("nothing", x.step(), 0);
    }

    private static void eats(int hunger, int full, int steps, int eaten, int lambs) {
        String house = "r1 60;f0 " + hunger + " 0;";
        PlushFlocks x = full == 20 ? due.told(house, 2) : due.told(house + "n" + full + ";", 3);
        for (int i = 0; i < steps; i++) {
            x.step();
        }
        String of = " of " + steps + " by " + hunger + ", full " + full;
        due.is("eaten" + of, x.flock(0, 4), eaten);
        due.is("lambs" + of, x.flock(0, 5), lambs);
    }

    private static void fullOrMoreBearsALamb() {
        due.sentence("as EATEN is FULL or more, it is FULL less, and the FLOCK has a LAMB more");
        eats(8, 9, 1, 8, 0);
        eats(9, 9, 1, 0, 1);
        eats(8, 9, 2, 7, 1);
        eats(9, 10, 1, 9, 0);
        eats(1, 1, 1, 0, 1);
        eats(5, 20, 3, 15, 0);
        eats(5, 20, 4, 0, 1);
        eats(7, 20, 3, 1, 1);
        eats(1, 60, 59, 59, 0);
        eats(1, 60, 60, 0, 1);
        eats(9, 99, 9, 60, 0);
        PlushFlocks x = due.told("r1 60;f0 9 0;n99;", 3);
        for (int i = 0; i < 11; i++) {
            due.is("lambs", x.flock(0, 5), 0);
            due.is("eaten", x.flock(0, 4), 9 * i);
            x.step();
            x.dawn();
        }
        due.is("lambs at 99", x.flock(0, 5), 1);
        due.is("eaten", x.flock(0, 4), 0);
    }

    private static void asOftenAsFullBearsLambs() {
        due.sentence("as often as EATEN is FULL or more");
        eats(9, 1, 1, 0, 9);
        eats(9, 2, 1, 1, 4);
        eats(9, 4, 1, 1, 2);
        eats(9, 5, 1, 4, 1);
        eats(9, 5, 2, 3, 3);
        eats(8, 4, 1, 0, 2);
        eats(7, 4, 1, 3, 1);
    }

    private static void lambsAre99AtMost() {
        due.sentence("a LAMB more (99 at most)");
        PlushFlocks x = due.told("r1 60;f0 9 0;n1;", 3);
        for (int i = 1; i <= 13; i++) {
            x.step();
            x.dawn();
            due.is("lambs", x.flock(0, 5), i <= 11 ? 9 * i : 99);
        }
    }

    private static void lambsLeapTo99AtMost() {
        due.sentence("a LAMB more (99 at most; several at once)");
        PlushFlocks x = due.told("r1 60;f0 7 0;n1;", 3);
        for (int i = 1; i <= 16; i++) {
            x.step();
            x.dawn();
            due.is("lambs", x.flock(0, 5), i <= 14 ? 7 * i : 99);
            due.is("eaten", x.flock(0, 4), 0);
        }
    }

    private static void fullIsLessBeyond99Lambs() {
        due.sentence("as often as EATEN is FULL or more, it is FULL less (99 LAMBS, too)");
        PlushFlocks x = due.told("r1 60;f0 9 0;n4;", 3);
        for (int i = 1; i <= 48; i++) {
            due.is("step()", x.step(), 9);
            x.dawn();
            x.dawn();
            due.is("lambs", x.flock(0, 5), Math.min(99, 9 * i / 4));
            due.is("eaten", x.flock(0, 4), 9 * i % 4);
        }
    }

    private static void oneOfThreeAlone() {
        due.sentence("each does one of these three alone, by the ROOM in which it is then");
        PlushFlocks flees = due.told("r1 9;r1 9;d0 1;f0 2 0;", 4);
        flees.puts(0);
        due.is("it flees and does not eat", flees.step(), 0);
        due.is("carpet", flees.now(3), 18);
        due.is("it fled", flees.flock(0, 3), 1);
        PlushFlocks goes = due.told("r1 0;r1 9;d0 1;f0 2 0;", 4);
        due.is("it goes and does not eat", goes.step(), 0);
        due.is("it went", goes.flock(0, 3), 1);
        PlushFlocks eats = due.told("r1 2;r1 9;d0 1;f0 2 0;", 4);
        due.is("it eats", eats.step(), 2);
        due.is("and does not go", eats.flock(0, 3), 0);
        PlushFlocks row = due.told(FIVE_ROOMS + "d0 1;d1 2;d2 3;d3 4;f0 1 0;", 10);
        for (int r = 0; r < 4; r++) {
            row.puts(r);
        }
        row.step();
        due.is("it flees no further", row.flock(0, 3), 0);
        row.calls(1);
        row.step();
        due.is("it flees by one room", row.flock(0, 3), 1);
    }

    private static void flockByFlock() {
        due.sentence("FLOCK by FLOCK, by numbers");
        PlushFlocks eaten = due.told("r2 3;r1 1;d0 1;f0 3 0;f0 3 0;", 5);
        due.is("step()", eaten.step(), 3);
        due.is("the first eats all", eaten.flock(0, 4), 3);
        due.is("the second goes then", eaten.flock(1, 3), 1);
        PlushFlocks fills = due.told("r1 0;r1 0;r1 9;d0 2;d1 2;f1 1 0;f0 1 0;", 7);
        fills.step();
        due.is("the first goes in", fills.flock(0, 3), 2);
        due.is("it is full for the second", fills.flock(1, 3), 0);
        PlushFlocks leaves = due.told("r1 0;r1 9;r1 9;d0 1;d1 2;f1 1 0;f0 1 0;", 7);
        leaves.puts(1);
        leaves.step();
        due.is("the first flees into 2, for 0 is full", leaves.flock(0, 3), 2);
        due.is("the dog is there for the second", leaves.flock(1, 3), 0);
        PlushFlocks free = due.told("r1 0;r1 0;r1 9;r1 9;d0 1;d1 2;d2 3;f2 1 0;f0 1 0;f1 1 0;", 10);
        free.puts(2);
        free.puts(0);
        free.step();
        due.is("the first flees", free.flock(0, 3), 3);
        due.is("the second can't, the third is there", free.flock(1, 3), 0);
        due.is("the third can't, a dog is there", free.flock(2, 3), 1);
        PlushFlocks after = due.told("r1 0;r1 0;r1 9;d0 1;d1 2;f1 1 0;f0 1 0;", 7);
        after.puts(0);
        after.step();
        due.is("the first goes", after.flock(0, 3), 2);
        due.is("the second flees into what it left", after.flock(1, 3), 1);
    }

    private static void fleesIntoTheLowest() {
        due.sentence("flees: into the lowest ROOM beyond a DOOR of it");
        PlushFlocks x = due.told(FIVE_ROOMS + "d2 4;d2 3;d2 1;f2 1 0;", 9);
        x.puts(2);
        x.step();
        due.is("1 is the lowest, 0 has no door", x.flock(0, 3), 1);
        x.undo();
        x.puts(1);
        x.step();
        due.is("3 is the lowest without a dog", x.flock(0, 3), 3);
        x.undo();
        x.puts(3);
        x.step();
        due.is("the last one", x.flock(0, 3), 4);
        PlushFlocks zero = due.told("r1 0;r1 60;r1 60;d1 0;d1 2;f1 1 0;", 6);
        zero.puts(1);
        zero.step();
        due.is("carpet does not matter", zero.flock(0, 3), 0);
    }

    private static void fleesWhereFewerAre() {
        due.sentence("flees: into a ROOM that holds fewer FLOCKS than it HOLDS");
        PlushFlocks full = due.told("r5 9;r2 0;d0 1;f1 1 0;f1 1 0;f0 1 0;", 6);
        full.puts(0);
        full.step();
        due.is("as many as it holds", full.flock(2, 3), 0);
        PlushFlocks more = due.told("r5 9;r1 0;d0 1;f1 1 0;f1 1 0;f0 1 0;", 6);
        more.puts(0);
        more.step();
        due.is("more than it holds", more.flock(2, 3), 0);
        PlushFlocks fewer = due.told("r5 9;r3 0;d0 1;f1 1 0;f1 1 0;f0 1 0;f0 1 0;", 7);
        fewer.puts(0);
        fewer.step();
        due.is("one fewer than it holds", fewer.flock(2, 3), 1);
        due.is("as many then", fewer.flock(3, 3), 0);
        PlushFlocks five = due.told("r1 9;r5 0;d0 1;f1 1 0;f1 1 0;f1 1 0;f1 1 0;f0 1 0;", 8);
        five.puts(0);
        five.step();
        due.is("a fifth of five", five.flock(4, 3), 1);
    }

    private static void fleesFromDogsAlone() {
        due.sentence("one in a ROOM with a DOG flees");
        PlushFlocks x = due.told("r1 9;r1 9;d0 1;f0 2 0;", 4);
        x.puts(1);
        due.is("the dog is in another room", x.step(), 2);
        due.is("it eats here", x.flock(0, 3), 0);
        x.puts(0);
        x.calls(1);
        due.is("the dog is here", x.step(), 0);
        due.is("it flees", x.flock(0, 3), 1);
        due.is("none is here any more", x.step(), 2);
    }

    private static void fleesOrStays() {
        due.sentence("flees; if there is none, it stays and does nothing");
        PlushFlocks x = due.told("r1 9;r1 9;f0 2 0;", 3);
        x.puts(0);
        due.is("no door", x.step(), 0);
        due.is("it stays", x.flock(0, 3), 0);
        due.is("it eats nothing", x.flock(0, 4), 0);
        due.is("carpet", x.room(0, 1), 9);
        PlushFlocks dogs = due.told("r1 9;r1 9;r1 9;d0 1;d0 2;f0 2 0;", 6);
        dogs.puts(0);
        dogs.puts(1);
        dogs.puts(2);
        due.is("dogs all around", dogs.step(), 0);
        due.is("it stays", dogs.flock(0, 3), 0);
        due.is("carpet", dogs.now(3), 27);
    }

    private static void goesIntoTheLowest() {
        due.sentence("goes into the lowest ROOM beyond a DOOR of it");
        PlushFlocks x = due.told("r1 9;r1 9;r1 0;r1 9;r1 9;d2 4;d2 3;d2 1;f2 1 0;", 9);
        x.step();
        due.is("1 is the lowest, 0 has no door", x.flock(0, 3), 1);
        PlushFlocks last = due.told(FIVE_ROOMS.substring(5) + "r1 9;d0 1;d0 2;d0 3;d0 4;f0 1 0;", 10);
        last.step();
        due.is("the last one", last.flock(0, 3), 4);
        PlushFlocks first = due.told("r1 9;r1 9;r1 0;d2 1;d2 0;f2 1 0;", 6);
        first.step();
        due.is("the first one", first.flock(0, 3), 0);
    }

    private static void goesWhereCarpetIs() {
        due.sentence("goes into a ROOM that has CARPET");
        PlushFlocks x = due.told("r1 0;r1 0;r1 1;d0 1;d0 2;f0 1 0;", 6);
        x.step();
        due.is("1 is carpet, 0 is none", x.flock(0, 3), 2);
        for (int r = 0; r < 5; r++) {
            int other = (r + 1) % 5;
            PlushFlocks bare = due.told(FIVE_ROOMS + "d" + r + " " + other + ";f" + other + " 1 0;", 7);
            bare.step();
            due.is("it does not go into bare " + r, bare.flock(0, 3), other);
        }
        PlushFlocks none = due.told("r1 0;r1 0;r1 9;d0 1;d1 2;f0 1 0;", 6);
        none.step();
        due.is("it does not go further for it", none.flock(0, 3), 0);
    }

    private static void goesWhereFewerAre() {
        due.sentence("goes into a ROOM that holds fewer than it HOLDS");
        PlushFlocks full = due.told("r5 0;r2 9;d0 1;f1 1 0;f1 1 0;f0 1 0;", 6);
        full.step();
        due.is("as many as it holds", full.flock(2, 3), 0);
        PlushFlocks more = due.told("r5 0;r1 9;d0 1;f1 1 0;f1 1 0;f0 1 0;", 6);
        more.step();
        due.is("more than it holds", more.flock(2, 3), 0);
        PlushFlocks fewer = due.told("r5 0;r3 9;d0 1;f1 1 0;f1 1 0;f0 1 0;f0 1 0;", 7);
        fewer.step();
        due.is("one fewer than it holds", fewer.flock(2, 3), 1);
        due.is("as many then", fewer.flock(3, 3), 0);
    }

    private static void goesWhereNoDogIs() {
        due.sentence("goes into a ROOM that has no DOG");
        PlushFlocks x = due.told("r1 0;r1 9;r1 9;d0 1;d0 2;f0 1 0;", 6);
        x.puts(1);
        x.step();
        due.is("the lowest without a dog", x.flock(0, 3), 2);
        x.undo();
        x.puts(2);
        x.step();
        due.is("dogs in both, it stays", x.flock(0, 3), 0);
    }

    private static void goesOrStays() {
        due.sentence("goes; if there is none, it stays");
        PlushFlocks x = due.told("r1 0;r1 9;f0 1 0;", 3);
        due.is("no door", x.step(), 0);
        due.is("it stays", x.flock(0, 3), 0);
        PlushFlocks bare = due.told("r1 0;r1 0;d0 1;f0 1 0;", 4);
        due.is("no carpet", bare.step(), 0);
        due.is("it stays", bare.flock(0, 3), 0);
    }

    private static void aFlockThatIsDriven() {
        due.sentence("drives. BAD (there is no such FLOCK)");
        PlushFlocks x = due.told(FIVE_ROOMS + "d0 1;f0 1 0;f0 1 0;", 8);
        due.is("drives(-1, 1)", x.drives(-1, 1), BAD);
        due.is("drives(2, 1)", x.drives(2, 1), BAD);
        due.is("drives(32, 1)", x.drives(32, 1), BAD);
        due.refusesFar("drives", f -> x.drives(f, 1), BAD);
        due.is("drives(1, 1)", x.drives(1, 1), 0);
        due.is("no flocks", due.told(FIVE_ROOMS + "d0 1;", 6).drives(0, 1), BAD);
        PlushFlocks five = due.told("r5 0;r5 0;d0 1;" + "f0 1 0;".repeat(5), 8);
        due.is("drives(5, 1)", five.drives(5, 1), BAD);
        due.is("drives(4, 1)", five.drives(4, 1), 0);
    }

    private static void aRoomThatIsDrivenInto() {
        due.sentence("drives. BAD (there is no such ROOM)");
        PlushFlocks x = due.told("r1 0;r1 0;d0 1;f0 1 0;", 4);
        due.is("drives(0, -1)", x.drives(0, -1), BAD);
        due.is("drives(0, 2)", x.drives(0, 2), BAD);
        due.is("drives(0, 33)", x.drives(0, 33), BAD);
        due.refusesFar("drives", r -> x.drives(0, r), BAD);
        due.is("drives(0, 1)", x.drives(0, 1), 0);
        PlushFlocks five = due.told(FIVE_ROOMS + "d0 4;f0 1 0;", 7);
        due.is("drives(0, 5)", five.drives(0, 5), BAD);
        due.is("drives(0, 4)", five.drives(0, 4), 0);
    }

    private static void drivenThroughADoor() {
        due.sentence("a FLOCK goes through a DOOR of its ROOM. STATE: no DOOR");
        PlushFlocks x = due.told("r5 0;r5 0;r5 0;d0 1;d1 2;f0 1 0;", 6);
        due.is("its own room", x.drives(0, 0), STATE);
        due.is("two doors away", x.drives(0, 2), STATE);
        due.is("it is still there", x.flock(0, 3), 0);
        due.is("through the one", x.drives(0, 1), 0);
        due.is("through the other", x.drives(0, 2), 1);
        due.is("two doors away from here", x.drives(0, 0), STATE);
    }

    private static void drivenWhereFewerAre() {
        due.sentence("drives. STATE: that ROOM holds as many as it HOLDS");
        PlushFlocks x = due.told("r5 0;r2 0;d0 1;f1 1 0;f0 1 0;f0 1 0;", 6);
        due.is("one fewer than it holds", x.drives(1, 1), 0);
        due.is("as many as it holds", x.drives(2, 1), STATE);
        due.is("one leaves", x.drives(0, 0), 1);
        due.is("one fewer again", x.drives(2, 1), 0);
        PlushFlocks more = due.told("r5 0;r1 0;d0 1;f1 1 0;f1 1 0;f0 1 0;", 6);
        due.is("more than it holds", more.drives(2, 1), STATE);
        due.is("one leaves", more.drives(1, 0), 1);
        due.is("as many as it holds", more.drives(1, 1), STATE);
    }

    private static void drivenWhereNoDogIs() {
        due.sentence("drives. STATE: a DOG");
        PlushFlocks x = due.told("r1 0;r1 0;d0 1;f0 1 0;", 4);
        x.puts(1);
        due.is("a dog beyond", x.drives(0, 1), STATE);
        x.calls(1);
        x.puts(0);
        due.is("a dog here", x.drives(0, 1), 0);
        due.is("the dog is there", x.drives(0, 0), STATE);
    }

    private static void drivenAnswersTheRoomLeft() {
        due.sentence("DRIVEN: the ROOM that it left");
        PlushFlocks x = due.told(FIVE_ROOMS + "d0 4;f4 1 0;", 7);
        due.is("drives(0, 0)", x.drives(0, 0), 4);
        due.is("drives(0, 4)", x.drives(0, 4), 0);
    }

    private static void drivenBadComesFirst() {
        due.sentence("Refused, the first of these: BAD, STATE (drives)");
        PlushFlocks x = due.told("r1 0;r1 0;r1 0;d0 1;f0 1 0;f1 1 0;", 6);
        x.puts(1);
        due.is("a dog, full, no such flock", x.drives(2, 1), BAD);
        due.is("no door, no such flock", x.drives(-1, 2), BAD);
        due.is("no door, no such room", x.drives(0, 3), BAD);
        due.is("no door", x.drives(0, 2), STATE);
    }

    private static void aRoomForADog() {
        due.sentence("puts. BAD");
        due.is("no rooms", new PlushFlocks().puts(0), BAD);
        PlushFlocks x = due.told("r1 0;r1 0;", 2);
        due.is("puts(-1)", x.puts(-1), BAD);
        due.is("puts(2)", x.puts(2), BAD);
        due.is("puts(31)", x.puts(31), BAD);
        due.is("puts(32)", x.puts(32), BAD);
        due.refusesFar("puts", x::puts, BAD);
        due.is("puts(1)", x.puts(1), 1);
        due.is("puts(5) of five", due.told(FIVE_ROOMS, 5).puts(5), BAD);
    }

    private static void aDogInEachRoom() {
        due.sentence("PUT: how many DOGS");
        PlushFlocks x = due.told(FIVE_ROOMS + "f3 1 0;", 6);
        for (int r = 4; r >= 0; r--) {
            due.is("puts(" + r + ")", x.puts(r), 5 - r);
        }
        due.is("dogs", x.now(2), 31);
    }

    private static void oneDogInARoom() {
        due.sentence("puts. STATE: one is there");
        PlushFlocks x = due.told("r1 0;r1 0;", 2);
        x.puts(0);
        due.is("puts(0)", x.puts(0), STATE);
        due.is("puts(1)", x.puts(1), 2);
        due.is("puts(1)", x.puts(1), STATE);
        due.is("puts(2)", x.puts(2), BAD);
        x.calls(0);
        due.is("puts(0) anew", x.puts(0), 2);
    }

    private static void aDogThatIsCalled() {
        due.sentence("CALLED: how many DOGS are left. BAD");
        due.is("no rooms", new PlushFlocks().calls(0), BAD);
        PlushFlocks x = due.told(FIVE_ROOMS, 5);
        for (int r = 0; r < 5; r++) {
            x.puts(r);
        }
        due.is("calls(-1)", x.calls(-1), BAD);
        due.is("calls(5)", x.calls(5), BAD);
        due.is("calls(32)", x.calls(32), BAD);
        due.refusesFar("calls", x::calls, BAD);
        for (int r = 0; r < 5; r++) {
            due.is("calls(" + r + ")", x.calls(r), 4 - r);
        }
        due.is("dogs", x.now(2), 0);
    }

    private static void noDogThatIsCalled() {
        due.sentence("calls. STATE: none is there");
        PlushFlocks x = due.told("r1 0;r1 0;", 2);
        due.is("none at all", x.calls(0), STATE);
        x.puts(1);
        due.is("one in another room", x.calls(0), STATE);
        due.is("calls(1)", x.calls(1), 0);
        due.is("it is gone", x.calls(1), STATE);
        due.is("calls(2)", x.calls(2), BAD);
    }

    private static void dawnIs5More() {
        due.sentence("A DAWN: each CARPET is 5 more");
        PlushFlocks x = due.told("r1 0;r1 1;r1 30;r1 54;r1 55;", 5);
        x.dawn();
        int[] carpets = {5, 6, 35, 59, 60};
        for (int r = 0; r < 5; r++) {
            due.is("carpet " + r, x.room(r, 1), carpets[r]);
        }
        PlushFlocks one = due.told("r1 7;", 1);
        one.dawn();
        due.is("carpet of the one", one.now(3), 12);
        PlushFlocks none = new PlushFlocks();
        none.dawn();
        due.is("carpet of none", none.now(3), 0);
        due.tell(none, "r1 3;", 1);
        due.is("carpet as told", none.now(3), 3);
    }

    private static void dawnIs60AtMost() {
        due.sentence("A DAWN: each CARPET (60 at most)");
        PlushFlocks x = due.told("r1 56;r1 57;r1 58;r1 59;r1 60;", 5);
        for (int night = 1; night <= 2; night++) {
            due.is("dawn()", x.dawn(), night);
            for (int r = 0; r < 5; r++) {
                due.is("carpet " + r, x.room(r, 1), 60);
            }
        }
    }

    private static void dawnCallsAllDogs() {
        due.sentence("A DAWN: all DOGS are CALLED");
        PlushFlocks x = due.told(FIVE_ROOMS, 5);
        for (int r = 0; r < 5; r++) {
            x.puts(r);
        }
        x.dawn();
        due.is("dogs", x.now(2), 0);
        due.is("calls(0)", x.calls(0), STATE);
        due.is("puts(4)", x.puts(4), 1);
    }

    private static void nightIs1More() {
        due.sentence("A DAWN: NIGHT is 1 more");
        PlushFlocks x = new PlushFlocks();
        for (int night = 1; night <= 510; night++) {
            due.is("dawn()", x.dawn(), night);
        }
        due.is("night", x.now(0), 510);
    }

    /**
     * No object is promised for as many calls as 999 nights want. This class answers beyond them as ahead
     * of them, and only there can the sentence be held.
     */
    private static void nightIs999AtMost() {
        due.sentence("NIGHT is 1 more (999 at most); dawn. STATE: it is 999");
        PlushFlocks x = due.told("r1 0;", 1);
        for (int night = 1; night <= 999; night++) {
            due.is("dawn()", x.dawn(), night);
        }
        x.puts(0);
        x.keep(0);
        due.is("dawn() at 999", x.dawn(), STATE);
        due.is("night", x.now(0), 999);
        due.is("no dog is called", x.now(2), 1);
        due.is("undo()", x.undo(), 9);
        due.is("undo()", x.undo(), 8);
        due.is("night", x.now(0), 998);
        due.is("dawn() at 998", x.dawn(), 999);
        due.is("again(0)", x.again(0), 999);
        due.is("dawn() at 999", x.dawn(), STATE);
    }

    private static void undoneIsNone() {
        due.sentence("undo. STATE: none");
        PlushFlocks x = due.told("r1 0;", 1);
        due.is("undo()", x.undo(), STATE);
        x.puts(0);
        due.is("undo()", x.undo(), 0);
        due.is("undo()", x.undo(), STATE);
        due.is("undo()", x.undo(), STATE);
    }

    private static void undoneIsAnyOfFive() {
        due.sentence("UNDONE: the latest step(), drives(), puts(), calls(), dawn()");
        PlushFlocks x = due.told("r1 9;r1 0;d0 1;f0 2 0;n2;", 5);
        x.step();
        due.is("undo() of step()", x.undo(), 0);
        due.is("carpet", x.room(0, 1), 9);
        due.is("lambs", x.now(4), 0);
        x.drives(0, 1);
        due.is("undo() of drives()", x.undo(), 0);
        due.is("place", x.flock(0, 3), 0);
        x.puts(0);
        due.is("undo() of puts()", x.undo(), 0);
        due.is("dogs", x.now(2), 0);
        x.puts(0);
        x.calls(0);
        due.is("undo() of calls()", x.undo(), 1);
        due.is("dogs", x.now(2), 1);
        x.dawn();
        due.is("undo() of dawn()", x.undo(), 1);
        due.is("dogs", x.now(2), 1);
        due.is("night", x.now(0), 0);
        due.is("carpet", x.now(3), 9);
        PlushFlocks idle = new PlushFlocks();
        idle.step();
        due.is("undo() of a step without flocks", idle.undo(), 0);
    }

    private static void undoneIsTheLatest() {
        due.sentence("UNDONE: the latest; how many more may be");
        PlushFlocks x = due.told(FIVE_ROOMS, 5);
        x.puts(0);
        x.puts(1);
        x.puts(2);
        due.is("undo()", x.undo(), 2);
        due.is("dogs", x.now(2), 3);
        x.puts(3);
        due.is("undo()", x.undo(), 2);
        due.is("dogs", x.now(2), 3);
        due.is("undo() of one ahead", x.undo(), 1);
        due.is("dogs", x.now(2), 1);
        due.is("undo() of the first", x.undo(), 0);
        due.is("dogs", x.now(2), 0);
    }

    private static void undoneAre10AtMost() {
        due.sentence("UNDONE (10 are known, older ones are lost)");
        for (int done = 9; done <= 31; done++) {
            PlushFlocks x = new PlushFlocks();
            for (int i = 0; i < done; i++) {
                x.dawn();
            }
            int known = Math.min(10, done);
            due.is("known of " + done, x.now(5), known);
            for (int left = known - 1; left >= 0; left--) {
                due.is("undo()", x.undo(), left);
                due.is("night", x.now(0), done - known + left);
            }
            due.is("undo()", x.undo(), STATE);
            due.is("night", x.now(0), done - known);
        }
        PlushFlocks mixed = new PlushFlocks();
        for (int i = 0; i < 10; i++) {
            mixed.dawn();
        }
        due.is("undo()", mixed.undo(), 9);
        due.is("undo()", mixed.undo(), 8);
        for (int i = 0; i < 5; i++) {
            mixed.step();
        }
        due.is("known", mixed.now(5), 10);
        for (int i = 9; i >= 0; i--) {
            due.is("undo()", mixed.undo(), i);
        }
        due.is("night", mixed.now(0), 3);
        due.is("undo()", mixed.undo(), STATE);
    }

    private static void undoneIsNotWhatWasRefused() {
        due.sentence("UNDONE: the latest that was not refused");
        PlushFlocks x = due.told("r1 9;r1 0;r1 0;d0 1;f0 2 0;f1 2 0;", 6);
        x.puts(2);
        x.puts(2);
        x.puts(3);
        x.calls(0);
        x.calls(-1);
        x.drives(0, 1);
        x.drives(0, 2);
        x.drives(9, 9);
        due.is("known", x.now(5), 1);
        due.is("undo()", x.undo(), 0);
        due.is("dogs", x.now(2), 0);
        x.undo();
        due.is("known behind a refused undo()", x.now(5), 0);
    }

    private static void undoneIsNothingElse() {
        due.sentence("UNDONE: the latest step(), drives(), puts(), calls(), dawn() (nothing else)");
        PlushFlocks x = due.told("r1 9;f0 2 0;", 2);
        x.dawn();
        x.keep(0);
        x.tells(1, 2);
        x.type('n');
        x.rate(0, 0);
        x.forget();
        x.tells(1, 0);
        due.is("known", x.now(5), 1);
        due.is("undo()", x.undo(), 0);
        due.is("night", x.now(0), 0);
        due.is("told stays", x.count(3), 1);
        due.is("the text stays", x.count(4), 1);
        due.is("the trace goes on", x.trace(), 1);
        due.is("the image stays", x.again(0), 1);
    }
}
