import java.util.Random;

/** All promises: runs of calls, always the same ones, answered by the program and by PlainFlocks. */
public final class AgainstPlainTest {
    private static final int RUNS = 2500;
    /** An object is promised for 512 calls: the longest of what follows one another here must still fit. */
    private static final int CALLS = 512 - 60;
    private static final Due due = new Due("AgainstPlainTest");

    private final Random random;
    private final PlushFlocks x = new PlushFlocks();
    private final PlainFlocks y = new PlainFlocks();
    private int calls = 0;

    private AgainstPlainTest(int seed) {
        random = new Random(seed);
    }

    public static void main(String[] args) {
        for (int seed = 0; seed < RUNS; seed++) {
            new AgainstPlainTest(seed).run(seed);
        }
        due.end();
    }

    private void run(int seed) {
        while (calls < CALLS) {
            tell(random.nextInt(5) == 0 ? brokenText() : soundText());
            int many = 20 + random.nextInt(150);
            for (int i = 0; i < many && calls < CALLS; i++) {
                call(seed);
            }
        }
    }

    private void tell(String text) {
        for (int i = 0; i < text.length() && calls < CALLS; i++) {
            same("type()", x.type(text.charAt(i)), y.type(text.charAt(i)));
        }
        int items = x.house();
        same("house() of '" + text + "'", items, y.house());
        if (items < 0 && random.nextInt(4) > 0) {
            same("clear()", x.clear(), y.clear());
        }
    }

    private String soundText() {
        StringBuilder text = new StringBuilder();
        int rooms = random.nextInt(8) == 0 ? random.nextInt(6) : 2 + random.nextInt(4);
        int holdsMost = 1 + random.nextInt(5);
        int carpetMost = random.nextInt(61);
        for (int r = 0; r < rooms; r++) {
            int carpet = random.nextInt(3) == 0 ? 0 : random.nextInt(carpetMost + 1);
            text.append('r').append(1 + random.nextInt(holdsMost)).append(' ').append(carpet).append(';');
        }
        if (rooms == 0) {
            return text.toString();
        }
        int doors = rooms > 1 ? random.nextInt(10) : 0;
        for (int d = 0; d < doors; d++) {
            int a = random.nextInt(rooms);
            text.append('d').append(a).append(' ').append((a + 1 + random.nextInt(rooms - 1)) % rooms).append(';');
        }
        int flocks = random.nextInt(6);
        for (int f = 0; f < flocks; f++) {
            text.append('f').append(random.nextInt(rooms)).append(' ').append(1 + random.nextInt(9));
            text.append(' ').append(random.nextInt(3)).append(';');
        }
        if (random.nextBoolean()) {
            text.append('n').append(1 + random.nextInt(random.nextBoolean() ? 9 : 99)).append(';');
        }
        return text.toString();
    }

    private String brokenText() {
        StringBuilder text = new StringBuilder(soundText());
        String letters = "rdfn; 0123456789   ;;x";
        int changes = 1 + random.nextInt(3);
        for (int i = 0; i < changes; i++) {
            int at = random.nextInt(text.length() + 1);
            int how = random.nextInt(4);
            if (how == 0 && at < text.length()) {
                text.deleteCharAt(at);
            } else if (how == 1) {
                text.setLength(at);
            } else {
                text.insert(at, letters.charAt(random.nextInt(letters.length())));
            }
        }
        return text.toString();
    }

    /** Mostly a number that there may be, now and then one beside it. */
    private int upTo(int most) {
        return random.nextInt(12) == 0 ? random.nextInt(most + 4) - 2 : random.nextInt(most + 1);
    }

    private int aRoom() {
        return upTo(Math.max(0, y.count(0) - 1));
    }

    private int aFlock() {
        return upTo(Math.max(0, y.count(1) - 1));
    }

    private void call(int seed) {
        int r = aRoom();
        int f = aFlock();
        int w = upTo(5);
        switch (random.nextInt(26)) {
            case 0: same("room(" + r + ", " + w + ")", x.room(r, w), y.room(r, w)); break;
            case 1: same("flock(" + f + ", " + w + ")", x.flock(f, w), y.flock(f, w)); break;
            case 2: same("now(" + w + ")", x.now(w), y.now(w)); break;
            case 3: case 4: case 5: same("step()", x.step(), y.step()); break;
            case 6: case 7: case 8: case 9:
                same("drives(" + f + ", " + r + ")", x.drives(f, r), y.drives(f, r)); break;
            case 10: same("puts(" + r + ")", x.puts(r), y.puts(r)); break;
            case 11: same("calls(" + r + ")", x.calls(r), y.calls(r)); break;
            case 12: same("dawn()", x.dawn(), y.dawn()); break;
            case 13: same("undo()", x.undo(), y.undo()); break;
            case 14: same("homing()", x.homing(), y.homing()); break;
            case 15: same("apart()", x.apart(f - 1), y.apart(f - 1)); break;
            case 16: anOdd(); break;
            case 17: case 18: aTelling(); break;
            case 19: same("can()", x.can(w / 2), y.can(w / 2)); break;
            case 20: same("ask()", x.ask(), y.ask()); break;
            case 21: same("rate(" + w + ", " + f + ")", x.rate(w, f), y.rate(w, f)); break;
            case 22: anImage(); break;
            case 23: same("count(" + w + ")", x.count(w), y.count(w)); break;
            case 24: same("trace()", x.trace(), y.trace()); break;
            default: aWayBack(seed); break;
        }
        if (random.nextInt(16) == 0) {
            all();
        }
    }

    private void anOdd() {
        int tenths = upTo(10);
        int k = upTo(5);
        int what = upTo(1);
        same("odds()", x.odds(tenths, k, what), y.odds(tenths, k, what));
    }

    private void aTelling() {
        if (random.nextInt(10) == 0) {
            same("forget()", x.forget(), y.forget());
            return;
        }
        int set = upTo((1 << y.count(1)) - 1);
        int n = random.nextInt(9) == 0 ? upTo(45) : random.nextInt(1 + 5 * Integer.bitCount(set & 31));
        same("tells()", x.tells(set, n), y.tells(set, n));
    }

    private void anImage() {
        int image = upTo(1);
        if (random.nextBoolean()) {
            same("keep()", x.keep(image), y.keep(image));
        } else {
            same("again()", x.again(image), y.again(image));
        }
    }

    private void aWayBack(int seed) {
        int what = random.nextInt(12) == 0 ? upTo(1) : 0;
        if (seed % 10 < 4 || what != 0) {
            same("back()", x.back(what), y.back(what));
            same("back(1)", x.back(1), y.back(1));
        }
    }

    private void all() {
        for (int what = 0; what < 6; what++) {
            same("now(" + what + ") then", x.now(what), y.now(what));
            same("count(" + what + ") then", x.count(what), y.count(what));
        }
        for (int i = 0; i < 5; i++) {
            same("carpet then", x.room(i, 1), y.room(i, 1));
            same("place then", x.flock(i, 3), y.flock(i, 3));
            same("eaten then", x.flock(i, 4), y.flock(i, 4));
            same("lambs then", x.flock(i, 5), y.flock(i, 5));
        }
    }

    private void same(String call, long got, long want) {
        calls++;
        due.is(call, got, want);
    }
}
