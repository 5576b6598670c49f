import java.util.ArrayList;
import java.util.Arrays;
import java.util.HashMap;
import java.util.HashSet;
import java.util.List;
import java.util.Map;
import java.util.Set;

/**
 * The document once more, in the plainest form and with other means than the program:
 * lists, maps and whole enumerations. What the two answer is held against one another.
 */
final class PlainFlocks {
    static final int BAD = -1, STATE = -2, FULL = -3, NONE = -9, NO = -1000000;

    static final class Now {
        List<Integer> place = new ArrayList<>();
        List<Integer> carpet = new ArrayList<>();
        List<Integer> eaten = new ArrayList<>();
        List<Integer> lambs = new ArrayList<>();
        Set<Integer> dogs = new HashSet<>();
        int night = 0;

        Now copy() {
            Now other = new Now();
            other.place.addAll(place);
            other.carpet.addAll(carpet);
            other.eaten.addAll(eaten);
            other.lambs.addAll(lambs);
            other.dogs.addAll(dogs);
            other.night = night;
            return other;
        }
    }

    static final class Told {
        final List<int[]> rooms = new ArrayList<>();
        final List<int[]> flocks = new ArrayList<>();
        final Set<Integer> doors = new HashSet<>();
        int full = 20;
        boolean fullTold = false;
    }

    private String text = "";
    private Told told = new Told();
    private Now now = new Now();
    private final List<Now> past = new ArrayList<>();
    private final Map<Integer, Now> images = new HashMap<>();
    private final List<int[]> heard = new ArrayList<>();
    private long trace = 0;

    int type(int letter) {
        if (letter < 0 || letter > 255) {
            return BAD;
        }
        if (text.length() == 120) {
            return FULL;
        }
        text += (char) letter;
        return text.length();
    }

    int clear() {
        int had = text.length();
        text = "";
        return had;
    }

    /** The text cut into tokens: {first letter's place, kind (a letter, '0' a number, '?' none), value}. */
    private List<int[]> tokens() {
        List<int[]> all = new ArrayList<>();
        int at = 0;
        while (at < text.length()) {
            char c = text.charAt(at);
            if (c == ' ') {
                at++;
            } else if ("rdfn;".indexOf(c) >= 0) {
                all.add(new int[] {at, c, 0});
                at++;
            } else if (c >= '0' && c <= '9') {
                int end = at;
                while (end < text.length() && text.charAt(end) >= '0' && text.charAt(end) <= '9') {
                    end++;
                }
                String number = text.substring(at, end);
                boolean fine = number.length() <= 2 && (number.length() == 1 || number.charAt(0) != '0');
                all.add(new int[] {at, fine ? '0' : '?', fine ? Integer.parseInt(number) : 0});
                at = end;
            } else {
                all.add(new int[] {at, '?', 0});
                at++;
            }
        }
        return all;
    }

    int house() {
        Told read = new Told();
        List<int[]> tokens = tokens();
        int items = 0;
        int i = 0;
        while (i < tokens.size()) {
            int[] head = tokens.get(i);
            int slots = head[1] == 'r' || head[1] == 'd' ? 2 : head[1] == 'f' ? 3 : head[1] == 'n' ? 1 : -1;
            if (slots < 0 || head[1] == 'r' && read.rooms.size() == 5 || head[1] == 'f' && read.flocks.size() == 5
                    || head[1] == 'n' && read.fullTold) {
                return -10 - head[0];
            }
            int[] values = new int[3];
            for (int s = 0; s <= slots; s++) {
                i++;
                if (i == tokens.size()) {
                    return -10 - text.length();
                }
                int[] token = tokens.get(i);
                boolean fine = s == slots ? token[1] == ';' : token[1] == '0' && fits(read, head[1], s, token[2], values);
                if (!fine) {
                    return -10 - token[0];
                }
                if (s < slots) {
                    values[s] = token[2];
                }
            }
            enter(read, head[1], values);
            items++;
            i++;
        }
        begin(read);
        return items;
    }

    private static boolean fits(Told read, int item, int slot, int value, int[] values) {
        switch ("" + (char) item + slot) {
            case "r0": return value >= 1 && value <= 5;
            case "r1": return value <= 60;
            case "d0": return value < read.rooms.size();
            case "d1": return value < read.rooms.size() && value != values[0];
            case "f0": return value < read.rooms.size();
            case "f1": return value >= 1 && value <= 9;
            case "f2": return value <= 2;
            default: return value >= 1;
        }
    }

    private static void enter(Told read, int item, int[] values) {
        if (item == 'r') {
            read.rooms.add(values);
        } else if (item == 'd') {
            read.doors.add(10 * values[0] + values[1]);
            read.doors.add(10 * values[1] + values[0]);
        } else if (item == 'f') {
            read.flocks.add(values);
        } else {
            read.full = values[0];
            read.fullTold = true;
        }
    }

    private void begin(Told read) {
        told = read;
        text = "";
        now = new Now();
        for (int[] room : told.rooms) {
            now.carpet.add(room[1]);
        }
        for (int[] flock : told.flocks) {
            now.place.add(flock[0]);
            now.eaten.add(0);
            now.lambs.add(0);
        }
        past.clear();
        images.clear();
        heard.clear();
    }

    private boolean noRoom(int r) {
        return r < 0 || r >= told.rooms.size();
    }

    private boolean noFlock(int f) {
        return f < 0 || f >= told.flocks.size();
    }

    private boolean door(int a, int b) {
        return told.doors.contains(10 * a + b);
    }

    private int holds(int r) {
        return told.rooms.get(r)[0];
    }

    private int home(int f) {
        return told.flocks.get(f)[0];
    }

    private static int in(List<Integer> place, int r) {
        int many = 0;
        for (int p : place) {
            many += p == r ? 1 : 0;
        }
        return many;
    }

    int room(int r, int what) {
        if (noRoom(r) || what < 0 || what > 5) {
            return BAD;
        }
        int bits = 0;
        if (what == 0) {
            return holds(r);
        } else if (what == 1) {
            return now.carpet.get(r);
        } else if (what == 2) {
            for (int b = 0; b < told.rooms.size(); b++) {
                bits += door(r, b) ? 1 << b : 0;
            }
            return bits;
        } else if (what == 3) {
            for (int f = 0; f < told.flocks.size(); f++) {
                bits += now.place.get(f) == r ? 1 << f : 0;
            }
            return bits;
        } else if (what == 4) {
            return now.dogs.contains(r) ? 1 : 0;
        }
        Now would = now.copy();
        int steps = 0;
        while (would.carpet.get(r) > 0) {
            if (steps == 60) {
                return NONE;
            }
            go(would);
            steps++;
        }
        return steps;
    }

    int flock(int f, int what) {
        if (noFlock(f) || what < 0 || what > 5) {
            return BAD;
        }
        if (what < 3) {
            return told.flocks.get(f)[what];
        }
        return what == 3 ? now.place.get(f) : what == 4 ? now.eaten.get(f) : now.lambs.get(f);
    }

    private int strays(Now then) {
        int bits = 0;
        for (int f = 0; f < told.flocks.size(); f++) {
            bits += then.place.get(f) != home(f) ? 1 << f : 0;
        }
        return bits;
    }

    int now(int what) {
        int all = 0;
        switch (what) {
            case 0: return now.night;
            case 1: return strays(now);
            case 2:
                for (int r : now.dogs) {
                    all += 1 << r;
                }
                return all;
            case 3:
                for (int c : now.carpet) {
                    all += c;
                }
                return all;
            case 4:
                for (int l : now.lambs) {
                    all += l;
                }
                return all;
            case 5: return past.size();
            default: return BAD;
        }
    }

    private int go(Now then) {
        int all = 0;
        for (int f = 0; f < told.flocks.size(); f++) {
            int here = then.place.get(f);
            if (then.dogs.contains(here)) {
                move(then, f, here, false);
            } else if (then.carpet.get(here) == 0) {
                move(then, f, here, true);
            } else {
                for (int bite = 0; bite < told.flocks.get(f)[1] && then.carpet.get(here) > 0; bite++) {
                    then.carpet.set(here, then.carpet.get(here) - 1);
                    then.eaten.set(f, then.eaten.get(f) + 1);
                    all++;
                }
                while (then.eaten.get(f) >= told.full) {
                    then.eaten.set(f, then.eaten.get(f) - told.full);
                    if (then.lambs.get(f) < 99) {
                        then.lambs.set(f, then.lambs.get(f) + 1);
                    }
                }
            }
        }
        return all;
    }

    private void move(Now then, int f, int here, boolean forCarpet) {
        for (int r = 0; r < told.rooms.size(); r++) {
            if (door(here, r) && !then.dogs.contains(r) && in(then.place, r) < holds(r)
                    && (!forCarpet || then.carpet.get(r) > 0)) {
                then.place.set(f, r);
                return;
            }
        }
    }

    private void remember() {
        past.add(now.copy());
        if (past.size() > 10) {
            past.remove(0);
        }
    }

    int step() {
        remember();
        return go(now);
    }

    private boolean canDrive(List<Integer> place, int f, int r) {
        return door(place.get(f), r) && !now.dogs.contains(r) && in(place, r) < holds(r);
    }

    int drives(int f, int r) {
        if (noFlock(f) || noRoom(r)) {
            return BAD;
        }
        if (!canDrive(now.place, f, r)) {
            return STATE;
        }
        remember();
        return now.place.set(f, r);
    }

    int puts(int r) {
        if (noRoom(r)) {
            return BAD;
        }
        if (now.dogs.contains(r)) {
            return STATE;
        }
        remember();
        now.dogs.add(r);
        return now.dogs.size();
    }

    int calls(int r) {
        if (noRoom(r)) {
            return BAD;
        }
        if (!now.dogs.contains(r)) {
            return STATE;
        }
        remember();
        now.dogs.remove(r);
        return now.dogs.size();
    }

    int dawn() {
        if (now.night == 999) {
            return STATE;
        }
        remember();
        now.night++;
        now.dogs.clear();
        now.carpet.replaceAll(c -> Math.min(60, c + 5));
        return now.night;
    }

    int undo() {
        if (past.isEmpty()) {
            return STATE;
        }
        now = past.remove(past.size() - 1);
        return past.size();
    }

    private List<Integer> homes() {
        List<Integer> homes = new ArrayList<>();
        for (int f = 0; f < told.flocks.size(); f++) {
            homes.add(home(f));
        }
        return homes;
    }

    /** How many drives from here at the fewest: layer behind layer, as whole sets. */
    private int drivesHome(List<Integer> from) {
        Set<List<Integer>> known = new HashSet<>();
        Set<List<Integer>> layer = new HashSet<>();
        layer.add(from);
        List<Integer> homes = homes();
        for (int many = 0; !layer.isEmpty(); many++) {
            if (layer.contains(homes)) {
                return many;
            }
            known.addAll(layer);
            Set<List<Integer>> next = new HashSet<>();
            for (List<Integer> place : layer) {
                for (List<Integer> other : drivesFrom(place).values()) {
                    if (!known.contains(other)) {
                        next.add(other);
                    }
                }
            }
            layer = next;
        }
        return NONE;
    }

    private Map<Integer, List<Integer>> drivesFrom(List<Integer> place) {
        Map<Integer, List<Integer>> all = new java.util.TreeMap<>();
        for (int f = 0; f < told.flocks.size(); f++) {
            for (int r = 0; r < told.rooms.size(); r++) {
                if (canDrive(place, f, r)) {
                    List<Integer> other = new ArrayList<>(place);
                    other.set(f, r);
                    all.put(10 * f + r, other);
                }
            }
        }
        return all;
    }

    int back(int what) {
        if (what != 0 && what != 1) {
            return BAD;
        }
        int fewest = drivesHome(now.place);
        if (what == 0) {
            return fewest;
        }
        if (fewest <= 0) {
            return NONE;
        }
        for (Map.Entry<Integer, List<Integer>> drive : drivesFrom(now.place).entrySet()) {
            if (drivesHome(drive.getValue()) == fewest - 1) {
                return drive.getKey();
            }
        }
        throw new IllegalStateException("no first drive");
    }

    int homing() {
        for (int many = 0; many <= told.rooms.size(); many++) {
            for (int bits = 0; bits < 1 << told.rooms.size(); bits++) {
                Now would = now.copy();
                would.dogs.clear();
                for (int r = 0; r < told.rooms.size(); r++) {
                    if ((bits & 1 << r) != 0) {
                        would.dogs.add(r);
                    }
                }
                go(would);
                if (would.dogs.size() == many && strays(would) == 0) {
                    return bits;
                }
            }
        }
        return NONE;
    }

    int apart(int f) {
        if (f != -1 && noFlock(f)) {
            return BAD;
        }
        List<int[]> ways = new ArrayList<>();
        allWays(new int[told.flocks.size()], 0, ways);
        int[] best = null;
        for (int[] way : ways) {
            if (standsApart(way) && (best == null || roomsOf(way) < roomsOf(best))) {
                best = way;
            }
        }
        return best == null ? NONE : f == -1 ? roomsOf(best) : best[f];
    }

    private void allWays(int[] way, int f, List<int[]> ways) {
        if (f == way.length) {
            ways.add(way.clone());
            return;
        }
        for (int r = 0; r < told.rooms.size(); r++) {
            way[f] = r;
            allWays(way, f + 1, ways);
        }
    }

    private static int roomsOf(int[] way) {
        return (int) Arrays.stream(way).distinct().count();
    }

    private boolean standsApart(int[] way) {
        for (int r = 0; r < told.rooms.size(); r++) {
            Set<Integer> stuffs = new HashSet<>();
            int many = 0;
            for (int f = 0; f < way.length; f++) {
                if (way[f] == r) {
                    stuffs.add(told.flocks.get(f)[2]);
                    many++;
                }
            }
            if (many > holds(r) || stuffs.size() > 1) {
                return false;
            }
        }
        return true;
    }

    int odds(int x, int k, int what) {
        if (x < 0 || x > 10 || k < 0 || k > 5 || what < 0 || what > 1) {
            return BAD;
        }
        long[] by = new long[7];
        by[0] = 1;
        long lower = 1;
        for (int f = 0; f < told.flocks.size(); f++) {
            for (int j = 5; j >= 0; j--) {
                by[j + 1] += by[j] * x;
                by[j] *= 10 - x;
            }
            lower *= 10;
        }
        long upper = 0;
        for (int j = 0; j <= k; j++) {
            upper += by[j];
        }
        for (int d = 2; d <= 5; d += 3) {
            while (upper % d == 0 && lower % d == 0) {
                upper /= d;
                lower /= d;
            }
        }
        return (int) (what == 0 ? upper : lower);
    }

    int tells(int set, int n) {
        if (set < 1 || set >= Math.pow(2, told.flocks.size()) || n < 0 || n > 45) {
            return BAD;
        }
        if (heard.size() == 6) {
            return FULL;
        }
        heard.add(new int[] {set, n});
        return heard.size();
    }

    int forget() {
        int had = heard.size();
        heard.clear();
        return had;
    }

    private List<Integer> possible() {
        List<Integer> all = new ArrayList<>();
        for (int grazed = 0; grazed < 1 << told.flocks.size(); grazed++) {
            boolean fine = true;
            for (int[] one : heard) {
                int ate = 0;
                for (int f = 0; f < told.flocks.size(); f++) {
                    ate += (one[0] & grazed & 1 << f) != 0 ? told.flocks.get(f)[1] : 0;
                }
                fine &= ate == one[1];
            }
            if (fine) {
                all.add(grazed);
            }
        }
        return all;
    }

    int can(int what) {
        List<Integer> all = possible();
        int and = -1;
        int or = 0;
        for (int grazed : all) {
            and &= grazed;
            or |= grazed;
        }
        switch (what) {
            case 0: return all.size();
            case 1: return all.isEmpty() ? NONE : and;
            case 2: return or;
            default: return BAD;
        }
    }

    int ask() {
        List<Integer> all = possible();
        int best = NONE;
        long least = Long.MAX_VALUE;
        for (int f = 0; f < told.flocks.size(); f++) {
            int flock = f;
            long with = all.stream().filter(s -> (s >> flock) % 2 == 1).count();
            long greater = Math.max(with, all.size() - with);
            if (all.size() > 1 && greater < least) {
                least = greater;
                best = f;
            }
        }
        return best;
    }

    private abstract static class Kind {
        abstract int of(PlainFlocks x, int f);
    }

    private static class Pile extends Kind {
        int of(PlainFlocks x, int f) {
            x.trace += 1;
            return x.told.flocks.get(f)[1];
        }
    }

    private static class Cord extends Pile {
        int of(PlainFlocks x, int f) {
            x.trace += 10;
            return super.of(x, f) + x.now.carpet.get(x.now.place.get(f));
        }
    }

    private static class Nap extends Pile {
        int of(PlainFlocks x, int f) {
            x.trace += 100;
            return super.of(x, f) - x.now.lambs.get(f);
        }
    }

    private static class Damask extends Cord {
        int of(PlainFlocks x, int f) {
            x.trace += 1000;
            return 2 * super.of(x, f);
        }
    }

    private static class Velvet extends Nap {
        int of(PlainFlocks x, int f) {
            x.trace += 10000;
            return super.of(x, f) + f;
        }
    }

    private static class Fringe extends Pile {
        int of(PlainFlocks x, int f) {
            x.trace += 100000;
            return super.of(x, f) + x.now.night;
        }
    }

    int rate(int kind, int f) {
        if (kind < 0 || kind > 5 || noFlock(f)) {
            return NO;
        }
        List<Kind> kinds = List.of(new Pile(), new Cord(), new Nap(), new Damask(), new Velvet(), new Fringe());
        return kinds.get(kind).of(this, f);
    }

    int keep(int image) {
        if (image != 0 && image != 1) {
            return BAD;
        }
        images.put(image, now.copy());
        return now.night;
    }

    int again(int image) {
        if (image != 0 && image != 1) {
            return BAD;
        }
        if (!images.containsKey(image)) {
            return STATE;
        }
        now = images.get(image).copy();
        past.clear();
        return now.night;
    }

    int count(int what) {
        switch (what) {
            case 0: return told.rooms.size();
            case 1: return told.flocks.size();
            case 2: return told.full;
            case 3: return heard.size();
            case 4: return text.length();
            default: return BAD;
        }
    }

    long trace() {
        return trace;
    }
}
