/** Promises 18 to 21 at their boundaries (tells, forget, can, ask): each method holds a sentence of the document. */
public final class GrazedEdgesTest {
    private static final int BAD = PlushFlocks.BAD, FULL = PlushFlocks.FULL, NONE = PlushFlocks.NONE;
    private static final Due due = new Due("GrazedEdgesTest");

    public static void main(String[] args) {
        toldOfOneFlockAtLeast();
        toldOfFlocksThatThereAre();
        toldIs0To45();
        toldAre6AtMost();
        badComesAheadOfFull();
        forgottenIsAll();
        canIsAskedFor0To2();
        canOfNothingTold();
        canOfNoFlocks();
        canOfOneSet();
        canOfNoSet();
        canInAllAndInSome();
        eachAteItsHunger();
        nothingAndAllWereEaten();
        askedIsNoneOfOneAtMost();
        askedOfTwo();
        askedIsTheSmallest();
        askedIsTheLowestOfSeveral();
        grazedChangesNothing();
        due.end();
    }

    private static PlushFlocks flocks(String hungers) {
        StringBuilder text = new StringBuilder("r5 0;");
        for (char hunger : hungers.toCharArray()) {
            text.append("f0 ").append(hunger).append(" 0;");
        }
        return due.told(text.toString(), hungers.length() + 1);
    }

    private static void can(PlushFlocks x, int sets, int inAll, int inSome) {
        due.is("can(0)", x.can(0), sets);
        due.is("can(1)", x.can(1), inAll);
        due.is("can(2)", x.can(2), inSome);
    }

    private static void toldOfOneFlockAtLeast() {
        due.sentence("TOLD: of a set of FLOCKS (bits; one at least). BAD");
        PlushFlocks x = flocks("12345");
        due.is("of none", x.tells(0, 0), BAD);
        for (int f = 0; f < 5; f++) {
            due.is("of one", x.tells(1 << f, 0), f + 1);
        }
        due.is("of all", x.tells(31, 0), 6);
    }

    private static void toldOfFlocksThatThereAre() {
        due.sentence("TOLD: of a set of FLOCKS. BAD (there is no such thing)");
        for (int many = 0; many <= 5; many++) {
            PlushFlocks x = flocks("12345".substring(0, many));
            int all = (1 << many) - 1;
            due.is("of one that there is not", x.tells(all + 1, 0), BAD);
            due.is("of one more", x.tells(2 * all + 1, 0), BAD);
            due.is("of a set of 64", x.tells(64 + all, 0), BAD);
            due.is("tells(-1, 0)", x.tells(-1, 0), BAD);
            due.refusesFar("tells", set -> x.tells(set, 0), BAD);
            due.is("told", x.count(3), 0);
            due.is("of all", x.tells(all, 0), many == 0 ? BAD : 1);
        }
    }

    private static void toldIs0To45() {
        due.sentence("TOLD: ate n (0 .. 45). BAD");
        PlushFlocks x = flocks("12");
        due.is("tells(1, -1)", x.tells(1, -1), BAD);
        due.is("tells(1, 46)", x.tells(1, 46), BAD);
        due.refusesFar("tells", n -> x.tells(1, n), BAD);
        due.is("both bad", x.tells(0, 46), BAD);
        due.is("told", x.count(3), 0);
        for (int n = 0; n <= 45; n++) {
            due.is("tells(1, " + n + ")", flocks("1").tells(1, n), 1);
            due.is("tells(31, " + n + ")", flocks("99999").tells(31, n), 1);
        }
    }

    private static void toldAre6AtMost() {
        due.sentence("TOLD (6 at most). FULL");
        PlushFlocks x = flocks("12");
        for (int i = 1; i <= 6; i++) {
            due.is("tells(1, 1)", x.tells(1, 1), i);
        }
        due.is("a seventh", x.tells(1, 1), FULL);
        due.is("a seventh that would change all", x.tells(1, 0), FULL);
        due.is("told", x.count(3), 6);
        can(x, 2, 1, 3);
        PlushFlocks sixth = flocks("12");
        for (int i = 1; i <= 5; i++) {
            sixth.tells(1, 1);
        }
        can(sixth, 2, 1, 3);
        due.is("a sixth", sixth.tells(2, 2), 6);
        can(sixth, 1, 3, 3);
    }

    private static void badComesAheadOfFull() {
        due.sentence("Refused, the first of these: BAD, FULL (tells)");
        PlushFlocks x = flocks("1");
        for (int i = 1; i <= 6; i++) {
            x.tells(1, 1);
        }
        due.is("tells(0, 1)", x.tells(0, 1), BAD);
        due.is("tells(2, 1)", x.tells(2, 1), BAD);
        due.is("tells(1, -1)", x.tells(1, -1), BAD);
        due.is("tells(1, 46)", x.tells(1, 46), BAD);
        due.is("tells(1, 1)", x.tells(1, 1), FULL);
    }

    private static void forgottenIsAll() {
        due.sentence("Nothing is TOLD: how much was");
        PlushFlocks x = flocks("12");
        due.is("forget() of none", x.forget(), 0);
        x.tells(1, 1);
        due.is("forget() of one", x.forget(), 1);
        can(x, 4, 0, 3);
        for (int i = 1; i <= 6; i++) {
            due.is("tells(3, 3)", x.tells(3, 3), i);
        }
        due.is("forget() of six", x.forget(), 6);
        due.is("forget() of none", x.forget(), 0);
        due.is("told", x.count(3), 0);
        can(x, 4, 0, 3);
        due.is("there is room again", x.tells(2, 0), 1);
        can(x, 2, 0, 1);
    }

    private static void canIsAskedFor0To2() {
        due.sentence("CAN: 0, 1, 2. BAD");
        PlushFlocks x = flocks("12");
        x.tells(1, 1);
        int[] answers = {BAD, BAD, 2, 1, 3, BAD, BAD};
        for (int what = -2; what <= 4; what++) {
            due.is("can(" + what + ")", x.can(what), answers[what + 2]);
        }
        due.refusesFar("can", x::can, BAD);
        due.is("can(3) of no flocks", new PlushFlocks().can(3), BAD);
    }

    private static void canOfNothingTold() {
        due.sentence("CAN: sets of FLOCKS by which all that was TOLD is so (nothing was)");
        for (int many = 0; many <= 5; many++) {
            can(flocks("99999".substring(0, many)), 1 << many, 0, (1 << many) - 1);
        }
    }

    private static void canOfNoFlocks() {
        due.sentence("CAN: sets of FLOCKS (no FLOCKS)");
        can(new PlushFlocks(), 1, 0, 0);
        can(due.told("r1 0;", 1), 1, 0, 0);
    }

    private static void canOfOneSet() {
        due.sentence("CAN: those in all (bits), in some (bits) (one set)");
        PlushFlocks all = flocks("12345");
        all.tells(31, 15);
        can(all, 1, 31, 31);
        PlushFlocks none = flocks("12345");
        none.tells(31, 0);
        can(none, 1, 0, 0);
        PlushFlocks last = flocks("12349");
        last.tells(15, 0);
        last.tells(16, 9);
        can(last, 1, 16, 16);
    }

    private static void canOfNoSet() {
        due.sentence("CAN: those in all (NONE: there are none)");
        PlushFlocks x = flocks("22");
        x.tells(3, 3);
        can(x, 0, NONE, 0);
        x.forget();
        x.tells(1, 2);
        x.tells(1, 0);
        can(x, 0, NONE, 0);
        x.forget();
        x.tells(3, 5);
        can(x, 0, NONE, 0);
        x.forget();
        x.tells(3, 4);
        can(x, 1, 3, 3);
    }

    private static void canInAllAndInSome() {
        due.sentence("CAN: how many; those in all; in some");
        PlushFlocks x = flocks("3333");
        x.tells(12, 3);
        can(x, 8, 0, 15);
        x.tells(3, 6);
        can(x, 2, 3, 15);
        x.tells(6, 3);
        can(x, 1, 11, 11);
    }

    private static void eachAteItsHunger() {
        due.sentence("TOLD: those that truly grazed ate n together, HUNGER of each");
        PlushFlocks x = flocks("12345");
        x.tells(22, 5);
        can(x, 8, 0, 31);
        x.tells(16, 5);
        can(x, 4, 16, 25);
        x.tells(9, 4);
        can(x, 1, 24, 24);
    }

    private static void nothingAndAllWereEaten() {
        due.sentence("TOLD: ate n (0 .. 45) together (0, 45)");
        PlushFlocks all = flocks("99999");
        all.tells(31, 45);
        can(all, 1, 31, 31);
        PlushFlocks less = flocks("99998");
        less.tells(31, 45);
        can(less, 0, NONE, 0);
        PlushFlocks none = flocks("11");
        none.tells(2, 0);
        can(none, 2, 0, 1);
    }

    private static void askedIsNoneOfOneAtMost() {
        due.sentence("ASK: NONE (one can be at most)");
        due.is("no flocks", new PlushFlocks().ask(), NONE);
        PlushFlocks x = flocks("12");
        x.tells(3, 2);
        due.is("one can be", x.ask(), NONE);
        x.tells(3, 1);
        due.is("none can be", x.ask(), NONE);
    }

    private static void askedOfTwo() {
        due.sentence("ASK: the FLOCK by which, grazed or not, the greater part of these is smallest (two can be)");
        due.is("one flock", flocks("5").ask(), 0);
        for (int f = 0; f < 5; f++) {
            PlushFlocks x = flocks("12345");
            for (int known = 0; known < 5; known++) {
                if (known != f) {
                    x.tells(1 << known, 0);
                }
            }
            can(x, 2, 0, 1 << f);
            due.is("the one that may be or not", x.ask(), f);
        }
    }

    private static void askedIsTheSmallest() {
        due.sentence("ASK: the FLOCK by which the greater part of these is smallest");
        PlushFlocks x = flocks("11122");
        x.tells(7, 1);
        due.is("by 0: 8 of 12, by 3: 6", x.ask(), 3);
        PlushFlocks most = flocks("11122");
        most.tells(7, 2);
        due.is("by 0: 8 of 12, by 3: 6", most.ask(), 3);
        PlushFlocks sure = flocks("9111");
        sure.tells(15, 1);
        due.is("by 0: 3 of 3, by 1: 2", sure.ask(), 1);
        PlushFlocks in = flocks("9111");
        in.tells(15, 11);
        due.is("by 0: 3 of 3, by 1: 2", in.ask(), 1);
    }

    private static void askedIsTheLowestOfSeveral() {
        due.sentence("ASK: of several the lowest");
        due.is("all alike", flocks("12345").ask(), 0);
        PlushFlocks x = flocks("12345");
        x.tells(1, 1);
        due.is("all but the first alike", x.ask(), 1);
        PlushFlocks turned = flocks("221");
        turned.tells(7, 3);
        due.is("by 0 and by 1: 1 of 2", turned.ask(), 0);
    }

    private static void grazedChangesNothing() {
        due.sentence("(As things are NOW; nothing is changed.) CAN, ASK");
        PlushFlocks x = due.told("r5 60;f0 3 0;f0 4 0;", 3);
        x.tells(3, 3);
        for (int i = 0; i < 2; i++) {
            can(x, 1, 1, 1);
            due.is("ask()", x.ask(), NONE);
            due.is("told", x.count(3), 1);
            x.step();
        }
        due.is("known", x.now(5), 2);
    }
}
