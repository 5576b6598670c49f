import java.util.ArrayList;
import java.util.List;
import java.util.function.Consumer;
import java.util.function.ToIntFunction;

/**
 * "Refused, and nothing changes" and "(As things are NOW; nothing is changed.)": of two objects with the same
 * life one is asked; all that can be seen of the two, then and behind undo(), again() and house(), is the same.
 */
public final class UnchangedTest {
    private static final int BAD = PlushFlocks.BAD, STATE = PlushFlocks.STATE, FULL = PlushFlocks.FULL;
    private static final int NO = PlushFlocks.NO;
    private static final Due due = new Due("UnchangedTest");

    public static void main(String[] args) {
        asked();
        textRefused();
        askedRefused();
        drivesRefused();
        dogsRefused();
        undoRefused();
        homeRefused();
        grazedRefused();
        kindsRefused();
        imagesRefused();
        due.end();
    }

    private static void asked() {
        asks("room(0, 5), when it is NONE", x -> x.puts(0), x -> x.room(0, 5), PlushFlocks.NONE);
        asks("room(0, 5)", x -> x.room(0, 5), 7);
        asks("flock(0, 5)", x -> x.flock(0, 5), 1);
        asks("now(1)", x -> x.now(1), 0);
        asks("back(0)", x -> x.drives(0, 1), x -> x.back(0), 1);
        asks("back(1)", x -> x.drives(0, 1), x -> x.back(1), 0);
        asks("back(0), when it is NONE", UnchangedTest::lockOut, x -> x.back(0), PlushFlocks.NONE);
        asks("homing()", PlushFlocks::homing, 0);
        asks("homing(), when it is NONE", UnchangedTest::driveFar, PlushFlocks::homing, PlushFlocks.NONE);
        asks("apart(-1)", x -> x.apart(-1), 2);
        asks("apart(1)", x -> x.apart(1), 1);
        asks("odds(5, 1, 0)", x -> x.odds(5, 1, 0), 3);
        asks("can(0)", x -> x.can(0), 2);
        asks("ask()", PlushFlocks::ask, 1);
        asks("count(2)", x -> x.count(2), 3);
        asks("trace()", x -> (int) x.trace(), 100001);
    }

    private static void lockOut(PlushFlocks x) {
        x.drives(0, 1);
        x.puts(0);
    }

    private static void driveFar(PlushFlocks x) {
        x.calls(2);
        x.drives(0, 1);
        x.drives(0, 2);
    }

    private static void textRefused() {
        refuses("type(-1)", x -> x.type(-1), BAD);
        refuses("type(256)", x -> x.type(256), BAD);
        Consumer<PlushFlocks> fill = x -> due.type(x, " ".repeat(120 - x.count(4)));
        refuses("type() of a 121st", fill, x -> x.type('5'), FULL);
        refuses("type(256) of a 121st", fill, x -> x.type(256), BAD);
        refuses("house() that ends too early", x -> x.house(), -12);
        refuses("house() with a fault", x -> due.type(x, "5 60;n7;f0 1 0;d0 0;"), PlushFlocks::house, -30);
        refuses("house() of 120 letters", fill, PlushFlocks::house, -130);
    }

    private static void askedRefused() {
        refuses("room(-1, 0)", x -> x.room(-1, 0), BAD);
        refuses("room(3, 5)", x -> x.room(3, 5), BAD);
        refuses("room(0, 6)", x -> x.room(0, 6), BAD);
        refuses("flock(2, 0)", x -> x.flock(2, 0), BAD);
        refuses("flock(0, -1)", x -> x.flock(0, -1), BAD);
        refuses("now(6)", x -> x.now(6), BAD);
        refuses("now(-1)", x -> x.now(-1), BAD);
        refuses("count(5)", x -> x.count(5), BAD);
        refuses("count(-1)", x -> x.count(-1), BAD);
    }

    private static void drivesRefused() {
        refuses("drives() of no flock", x -> x.drives(2, 1), BAD);
        refuses("drives() into no room", x -> x.drives(0, 3), BAD);
        refuses("drives() without a door", x -> x.drives(0, 2), STATE);
        refuses("drives() where it is", x -> x.drives(0, 0), STATE);
        refuses("drives() to a dog", x -> x.puts(1), x -> x.drives(0, 1), STATE);
        refuses("drives() into a full room", x -> x.drives(1, 1), x -> x.drives(0, 1), STATE);
    }

    private static void dogsRefused() {
        refuses("puts(-1)", x -> x.puts(-1), BAD);
        refuses("puts(3)", x -> x.puts(3), BAD);
        refuses("puts() where one is", x -> x.puts(2), STATE);
        refuses("calls(-1)", x -> x.calls(-1), BAD);
        refuses("calls(3)", x -> x.calls(3), BAD);
        refuses("calls() where none is", x -> x.calls(0), STATE);
    }

    private static void undoRefused() {
        Consumer<PlushFlocks> undoAll = x -> {
            for (int left = x.now(5); left > 0; left--) {
                x.undo();
            }
        };
        refuses("undo() of none", undoAll, PlushFlocks::undo, STATE);
        refuses("undo() behind again()", x -> x.again(0), PlushFlocks::undo, STATE);
    }

    private static void homeRefused() {
        refuses("back(-1)", x -> x.back(-1), BAD);
        refuses("back(2)", x -> x.back(2), BAD);
        refuses("apart(-2)", x -> x.apart(-2), BAD);
        refuses("apart(2)", x -> x.apart(2), BAD);
        refuses("odds(11, 0, 0)", x -> x.odds(11, 0, 0), BAD);
        refuses("odds(0, 6, 0)", x -> x.odds(0, 6, 0), BAD);
        refuses("odds(0, 0, 2)", x -> x.odds(0, 0, 2), BAD);
    }

    private static void grazedRefused() {
        refuses("tells(0, 0)", x -> x.tells(0, 0), BAD);
        refuses("tells(4, 0)", x -> x.tells(4, 0), BAD);
        refuses("tells(1, -1)", x -> x.tells(1, -1), BAD);
        refuses("tells(1, 46)", x -> x.tells(1, 46), BAD);
        Consumer<PlushFlocks> tellAll = x -> {
            for (int told = x.count(3); told < 6; told++) {
                x.tells(1, 5);
            }
        };
        refuses("tells() of a seventh", tellAll, x -> x.tells(3, 0), FULL);
        refuses("tells() of a bad seventh", tellAll, x -> x.tells(0, 0), BAD);
        refuses("can(-1)", x -> x.can(-1), BAD);
        refuses("can(3)", x -> x.can(3), BAD);
    }

    private static void kindsRefused() {
        refuses("rate(-1, 0)", x -> x.rate(-1, 0), NO);
        refuses("rate(6, 0)", x -> x.rate(6, 0), NO);
        refuses("rate(5, 2)", x -> x.rate(5, 2), NO);
        refuses("rate(3, -1)", x -> x.rate(3, -1), NO);
    }

    private static void imagesRefused() {
        refuses("keep(-1)", x -> x.keep(-1), BAD);
        refuses("keep(2)", x -> x.keep(2), BAD);
        refuses("again(-1)", x -> x.again(-1), BAD);
        refuses("again(2)", x -> x.again(2), BAD);
        refuses("again() of none that was kept", x -> x.again(1), STATE);
    }

    /** Something of everything: image 0 is kept, image 1 is not; the text is one letter of a room. */
    private static PlushFlocks lived() {
        PlushFlocks x = due.told("r2 50;r1 3;r1 9;d0 1;d1 2;f0 5 1;f0 2 2;n3;", 8);
        x.step();
        x.keep(0);
        x.dawn();
        x.puts(2);
        x.tells(1, 5);
        x.rate(5, 0);
        x.type(' ');
        x.type('r');
        return x;
    }

    private static void asks(String call, ToIntFunction<PlushFlocks> asked, int answer) {
        asks(call, x -> { }, asked, answer);
    }

    private static void asks(String call, Consumer<PlushFlocks> ahead, ToIntFunction<PlushFlocks> asked, int answer) {
        due.sentence("(As things are NOW; nothing is changed.) " + call);
        changesNothing(call, ahead, asked, answer);
    }

    private static void refuses(String call, ToIntFunction<PlushFlocks> refused, int answer) {
        refuses(call, x -> { }, refused, answer);
    }

    private static void refuses(String call, Consumer<PlushFlocks> ahead, ToIntFunction<PlushFlocks> refused,
            int answer) {
        due.sentence("Refused, and nothing changes: " + call);
        changesNothing(call, ahead, refused, answer);
    }

    private static void changesNothing(String call, Consumer<PlushFlocks> ahead, ToIntFunction<PlushFlocks> asked,
            int answer) {
        PlushFlocks x = lived();
        PlushFlocks y = lived();
        ahead.accept(x);
        ahead.accept(y);
        due.is(call, asked.applyAsInt(x), answer);
        same(call, x, y);
        for (int left = y.now(5); left > 0; left--) {
            same(call + ", undo()", x, y, PlushFlocks::undo);
        }
        due.is(call + ", undo() of none", x.undo(), y.undo());
        due.is(call + ", again(1)", x.again(1), y.again(1));
        same(call + ", again(0)", x, y, z -> z.again(0));
        same(call + ", house()", x, y, UnchangedTest::tellTheRest);
    }

    private static int tellTheRest(PlushFlocks x) {
        for (char letter : "4 8;".toCharArray()) {
            x.type(letter);
        }
        return x.house();
    }

    private static void same(String call, PlushFlocks x, PlushFlocks y, ToIntFunction<PlushFlocks> then) {
        due.is(call, then.applyAsInt(x), then.applyAsInt(y));
        same(call, x, y);
    }

    private static void same(String call, PlushFlocks x, PlushFlocks y) {
        List<Long> one = seen(x);
        List<Long> other = seen(y);
        due.is(call + ": how much is seen", one.size(), other.size());
        for (int i = 0; i < Math.min(one.size(), other.size()); i++) {
            due.is(call + ": what is seen at " + i, one.get(i), other.get(i));
        }
    }

    /** All that changes, as it can be asked for; the lives of both must fit into 512 calls. */
    private static List<Long> seen(PlushFlocks x) {
        List<Long> all = new ArrayList<>();
        for (int what = 0; what <= 5; what++) {
            all.add((long) x.now(what));
            all.add((long) x.count(what));
        }
        long rooms = all.get(1);
        for (int r = 0; r < rooms; r++) {
            for (int what = 0; what <= 3; what++) {
                all.add((long) x.room(r, what));
            }
        }
        long flocks = all.get(3);
        for (int f = 0; f < flocks; f++) {
            for (int what = 0; what <= 5; what++) {
                all.add((long) x.flock(f, what));
            }
        }
        for (int what = 0; what <= 2; what++) {
            all.add((long) x.can(what));
        }
        all.add(x.trace());
        return all;
    }
}
