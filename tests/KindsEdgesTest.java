import java.util.function.LongSupplier;

/**
 * Promises 22 to 24, 26 at their boundaries (rate, keep, again, trace):
 * each method holds a sentence of the document.
 */
public final class KindsEdgesTest {
    private static final int BAD = PlushFlocks.BAD, STATE = PlushFlocks.STATE, NO = PlushFlocks.NO;
    private static final Due due = new Due("KindsEdgesTest");

    public static void main(String[] args) {
        kindsAre0To5();
        ratedIsAFlockThatThereIs();
        noIsFarBelow0();
        refusedRatesAreNotTraced();
        pileIsHunger();
        cordIsUpAndCarpet();
        napIsUpLessLambs();
        damaskIsTwiceUp();
        velvetIsUpAndItsNumber();
        fringeIsUpAndNight();
        traceIs0AtFirst();
        traceAddsEachOnce();
        traceGoesOn();
        imagesAre0And1();
        keptIsNight();
        againWantsAnImage();
        badComesAheadOfState();
        againIsAllOfThat();
        againIsNothingElse();
        againLeavesNothingToUndo();
        anImageStays();
        anImageIsKeptAnew();
        keptIsNotUndone();
        due.end();
    }

    private static void kindsAre0To5() {
        due.sentence("RATE of a FLOCK as if of a KIND (0 .. 5). NO: BAD");
        PlushFlocks x = due.told("r1 7;r1 9;f0 1 0;f1 4 0;", 4);
        int[] answers = {NO, NO, 4, 13, 4, 26, 5, 4, NO, NO};
        for (int kind = -2; kind <= 7; kind++) {
            due.is("rate(" + kind + ", 1)", x.rate(kind, 1), answers[kind + 2]);
        }
        due.refusesFar("rate", kind -> x.rate(kind, 1), NO);
        due.is("both bad", x.rate(6, 2), NO);
    }

    private static void ratedIsAFlockThatThereIs() {
        due.sentence("RATE of a FLOCK. NO: BAD (there is no such thing)");
        for (int flocks = 0; flocks <= 5; flocks++) {
            PlushFlocks x = due.told("r1 0;" + "f0 6 0;".repeat(flocks), flocks + 1);
            for (int f = -2; f <= 6; f++) {
                due.is("rate(0, " + f + ") of " + flocks, x.rate(0, f), f >= 0 && f < flocks ? 6 : NO);
            }
            due.refusesFar("rate", f -> x.rate(0, f), NO);
        }
    }

    private static void noIsFarBelow0() {
        due.sentence("NO = -1000000: what is BAD, where a number may be below 0");
        due.is("NO", PlushFlocks.NO, -1000000);
        due.is("BAD", PlushFlocks.BAD, -1);
        due.is("STATE", PlushFlocks.STATE, -2);
        due.is("FULL", PlushFlocks.FULL, -3);
        due.is("NONE", PlushFlocks.NONE, -9);
        due.is("rate(0, 0)", new PlushFlocks().rate(0, 0), -1000000);
        PlushFlocks x = due.told("r1 60;f0 2 0;n1;", 3);
        x.step();
        x.step();
        due.is("a rate of -2", x.rate(2, 0), -2);
    }

    private static void refusedRatesAreNotTraced() {
        due.sentence("Refused, and nothing changes (rate)");
        PlushFlocks x = due.told("r1 0;f0 1 0;", 2);
        for (int kind = -1; kind <= 6; kind++) {
            x.rate(kind, 1);
            x.rate(kind, -1);
        }
        x.rate(-1, 0);
        x.rate(6, 0);
        due.is("trace()", x.trace(), 0);
    }

    private static void traced(PlushFlocks x, LongSupplier rate, long want, long trace) {
        long before = x.trace();
        due.is("rate()", rate.getAsLong(), want);
        due.is("trace()", x.trace() - before, trace);
    }

    /** Its one flock has many lambs, a high number, and is away from its home. */
    private static PlushFlocks lambed() {
        PlushFlocks x = due.told("r5 60;r5 13;d0 1;f0 1 0;f0 1 0;f0 1 0;f0 1 0;f0 9 0;n1;", 9);
        for (int i = 0; i < 16; i++) {
            x.step();
            x.dawn();
            x.dawn();
        }
        x.drives(4, 1);
        return x;
    }

    private static void pileIsHunger() {
        due.sentence("PILE its HUNGER (1)");
        for (int hunger = 1; hunger <= 9; hunger++) {
            PlushFlocks x = due.told("r1 60;f0 " + hunger + " 0;n1;", 3);
            x.step();
            x.dawn();
            traced(x, () -> x.rate(0, 0), hunger, 1);
        }
    }

    private static void cordIsUpAndCarpet() {
        due.sentence("CORD up, and CARPET of its ROOM (10)");
        PlushFlocks x = due.told("r1 60;r1 0;d0 1;f0 9 0;", 4);
        traced(x, () -> x.rate(1, 0), 69, 11);
        x.drives(0, 1);
        traced(x, () -> x.rate(1, 0), 9, 11);
    }

    private static void napIsUpLessLambs() {
        due.sentence("NAP up less its LAMBS (100)");
        PlushFlocks x = lambed();
        due.is("lambs", x.flock(4, 5), 99);
        traced(x, () -> x.rate(2, 4), 9 - 99, 101);
        due.is("lambs", x.flock(0, 5), 16);
        traced(x, () -> x.rate(2, 0), 1 - 16, 101);
    }

    private static void damaskIsTwiceUp() {
        due.sentence("DAMASK twice up (1000)");
        PlushFlocks x = due.told("r1 60;r1 0;d0 1;f0 9 0;", 4);
        traced(x, () -> x.rate(3, 0), 138, 1011);
        x.drives(0, 1);
        traced(x, () -> x.rate(3, 0), 18, 1011);
    }

    private static void velvetIsUpAndItsNumber() {
        due.sentence("VELVET up, and its number (10000)");
        PlushFlocks x = lambed();
        traced(x, () -> x.rate(4, 4), 9 - 99 + 4, 10101);
        traced(x, () -> x.rate(4, 0), 1 - 16, 10101);
    }

    private static void fringeIsUpAndNight() {
        due.sentence("FRINGE up, and NIGHT (100000)");
        PlushFlocks x = due.told("r1 60;f0 9 0;", 2);
        traced(x, () -> x.rate(5, 0), 9, 100001);
        for (int night = 1; night <= 400; night++) {
            x.dawn();
        }
        traced(x, () -> x.rate(5, 0), 409, 100001);
    }

    private static void traceIs0AtFirst() {
        due.sentence("THE TRACE, 0 at first");
        PlushFlocks x = new PlushFlocks();
        due.is("trace()", x.trace(), 0);
        due.is("trace() again", x.trace(), 0);
        due.is("trace()", due.told("r1 0;f0 1 0;", 2).trace(), 0);
    }

    private static void traceAddsEachOnce() {
        due.sentence("added to THE TRACE, as often as rate() asks that body: each once");
        PlushFlocks x = due.told("r1 60;f0 9 0;", 2);
        long[] by = {1, 11, 101, 1011, 10101, 100001};
        long all = 0;
        for (int round = 0; round < 10; round++) {
            for (int kind = 0; kind <= 5; kind++) {
                x.rate(kind, 0);
                all += by[kind];
                due.is("trace()", x.trace(), all);
            }
        }
        for (int i = 0; i < 300; i++) {
            x.rate(5, 0);
        }
        due.is("trace() of many", x.trace(), all + 300 * 100001);
    }

    private static void traceGoesOn() {
        due.sentence("THE TRACE goes on, as behind undo(), again()");
        PlushFlocks x = due.told("r1 60;f0 9 0;", 2);
        x.keep(0);
        x.dawn();
        x.rate(0, 0);
        x.undo();
        due.is("trace() behind undo()", x.trace(), 1);
        x.rate(1, 0);
        x.again(0);
        due.is("trace() behind again()", x.trace(), 12);
        x.house();
        due.is("trace() behind house()", x.trace(), 12);
        x.rate(0, 0);
        due.is("trace() behind a refused rate()", x.trace(), 12);
    }

    private static void imagesAre0And1() {
        due.sentence("IMAGES 0, 1. BAD");
        PlushFlocks x = due.told("r1 60;", 1);
        for (int bad : new int[] {-2, -1, 2, 3, 31, 32, 33}) {
            due.is("keep(" + bad + ")", x.keep(bad), BAD);
            due.is("again(" + bad + ")", x.again(bad), BAD);
        }
        due.refusesFar("keep", x::keep, BAD);
        due.refusesFar("again", x::again, BAD);
        due.is("none was kept", x.again(0), STATE);
        due.is("none was kept", x.again(1), STATE);
        due.is("keep(0)", x.keep(0), 0);
        due.is("keep(1)", x.keep(1), 0);
        due.is("again(0)", x.again(0), 0);
        due.is("again(1)", x.again(1), 0);
        due.is("again(2)", x.again(2), BAD);
    }

    private static void keptIsNight() {
        due.sentence("An IMAGE is kept: NIGHT. All of that becomes as an IMAGE has it: NIGHT");
        PlushFlocks x = new PlushFlocks();
        due.is("keep(0)", x.keep(0), 0);
        for (int night = 1; night <= 300; night++) {
            x.dawn();
        }
        due.is("keep(1)", x.keep(1), 300);
        due.is("again(0)", x.again(0), 0);
        due.is("night", x.now(0), 0);
        due.is("again(1)", x.again(1), 300);
        due.is("night", x.now(0), 300);
    }

    private static void againWantsAnImage() {
        due.sentence("again. STATE: none was kept");
        for (int image = 0; image <= 1; image++) {
            PlushFlocks x = due.told("r1 60;", 1);
            due.is("again()", x.again(image), STATE);
            x.keep(1 - image);
            due.is("again() of the other", x.again(image), STATE);
            due.is("again()", x.again(1 - image), 0);
            x.keep(image);
            due.is("again() behind keep()", x.again(image), 0);
            x.house();
            due.is("again() behind house()", x.again(image), STATE);
        }
    }

    private static void badComesAheadOfState() {
        due.sentence("Refused, the first of these: BAD, STATE (again)");
        PlushFlocks x = new PlushFlocks();
        due.is("again(-1)", x.again(-1), BAD);
        due.is("again(2)", x.again(2), BAD);
        due.is("again(1)", x.again(1), STATE);
    }

    private static void againIsAllOfThat() {
        due.sentence("IMAGES keep NOW (where FLOCKS are, CARPETS, EATEN, LAMBS, DOGS, NIGHT)");
        PlushFlocks x = due.told("r5 60;r5 0;r5 0;r5 0;r5 33;d0 4;d3 4;f0 9 0;f4 5 0;n4;", 10);
        x.step();
        x.dawn();
        x.puts(1);
        x.drives(0, 4);
        x.drives(1, 3);
        x.keep(1);
        int[] now = new int[5];
        for (int what = 0; what < 5; what++) {
            now[what] = x.now(what);
        }
        x.calls(1);
        x.puts(4);
        x.step();
        x.dawn();
        x.step();
        due.is("again(1)", x.again(1), 1);
        for (int what = 0; what < 5; what++) {
            due.is("now(" + what + ")", x.now(what), now[what]);
        }
        due.is("place", x.flock(0, 3), 4);
        due.is("place", x.flock(1, 3), 3);
        due.is("carpet", x.room(0, 1), 56);
        due.is("carpet", x.room(3, 1), 5);
        due.is("carpet", x.room(4, 1), 33);
        due.is("eaten", x.flock(0, 4), 1);
        due.is("eaten", x.flock(1, 4), 1);
        due.is("lambs", x.flock(0, 5), 2);
        due.is("lambs", x.flock(1, 5), 1);
        due.is("dogs", x.now(2), 2);
    }

    private static void againIsNothingElse() {
        due.sentence("IMAGES keep NOW; nothing else");
        PlushFlocks x = due.told("r1 60;f0 9 0;f0 8 0;", 3);
        x.keep(0);
        x.keep(1);
        x.tells(1, 9);
        x.tells(2, 0);
        due.type(x, "n7");
        x.rate(0, 0);
        x.dawn();
        x.keep(1);
        due.is("again(0)", x.again(0), 0);
        due.is("told stays", x.count(3), 2);
        due.is("can(1)", x.can(1), 1);
        due.is("the text stays", x.count(4), 2);
        due.is("the trace goes on", x.trace(), 1);
        due.is("the other image stays", x.again(1), 1);
        x.forget();
        x.clear();
        due.is("again(1)", x.again(1), 1);
        due.is("nothing told comes back", x.count(3), 0);
        due.is("no text comes back", x.count(4), 0);
    }

    private static void againLeavesNothingToUndo() {
        due.sentence("nothing can be UNDONE behind again()");
        PlushFlocks x = due.told("r1 60;", 1);
        x.dawn();
        x.keep(0);
        x.dawn();
        due.is("known", x.now(5), 2);
        x.again(0);
        due.is("known", x.now(5), 0);
        due.is("undo()", x.undo(), STATE);
        due.is("night", x.now(0), 1);
        x.dawn();
        due.is("what is done then", x.undo(), 0);
        due.is("night", x.now(0), 1);
        PlushFlocks many = new PlushFlocks();
        many.keep(0);
        for (int i = 0; i < 15; i++) {
            many.dawn();
        }
        many.again(0);
        due.is("known", many.now(5), 0);
        many.dawn();
        many.dawn();
        due.is("undo()", many.undo(), 1);
        due.is("undo()", many.undo(), 0);
        due.is("undo()", many.undo(), STATE);
        due.is("a refused again()", many.again(1), STATE);
    }

    private static void anImageStays() {
        due.sentence("All of that becomes as an IMAGE has it (more than once)");
        PlushFlocks x = due.told("r1 60;f0 9 0;", 2);
        x.keep(0);
        for (int i = 0; i < 3; i++) {
            x.step();
            x.dawn();
            due.is("again(0)", x.again(0), 0);
            due.is("carpet", x.now(3), 60);
            due.is("eaten", x.flock(0, 4), 0);
        }
    }

    private static void anImageIsKeptAnew() {
        due.sentence("An IMAGE is kept (over the one that was)");
        PlushFlocks x = due.told("r1 60;f0 9 0;", 2);
        x.keep(1);
        x.step();
        due.is("keep(1)", x.keep(1), 0);
        x.step();
        x.again(1);
        due.is("carpet", x.now(3), 51);
    }

    private static void keptIsNotUndone() {
        due.sentence("UNDONE: step(), drives(), puts(), calls(), dawn() (keep() is not, nor changes what is known)");
        PlushFlocks x = due.told("r1 60;", 1);
        x.dawn();
        x.keep(0);
        due.is("known", x.now(5), 1);
        due.is("undo()", x.undo(), 0);
        due.is("night", x.now(0), 0);
        due.is("the image stays", x.again(0), 1);
    }
}
