/** "An object is used for at most 512 calls after it has been made": lives of just as many. */
public final class WholeLifeTest {
    private static final int CALLS = 512;
    private static final int ROUND = 8;
    private static final Due due = new Due("WholeLifeTest");

    public static void main(String[] args) {
        due.sentence("An object is used for at most 512 calls");
        dawnsAlone();
        roundsOfAllThatIsDear();
        due.end();
    }

    private static void dawnsAlone() {
        PlushFlocks x = new PlushFlocks();
        for (int call = 1; call < CALLS; call++) {
            due.is("dawn()", x.dawn(), call);
        }
        due.is("night at the 512th call", x.now(0), CALLS - 1);
    }

    /** The widest house: five rooms that hold all, a door between any two, five flocks. */
    private static void roundsOfAllThatIsDear() {
        PlushFlocks x = new PlushFlocks();
        int calls = 0;
        String text = "r5 9;r5 9;r5 9;r5 9;r5 9;d0 1;d0 2;d0 3;d0 4;d1 2;d1 3;d1 4;d2 3;d2 4;d3 4;";
        for (char letter : (text + "f0 1 0;f0 1 1;f0 1 2;f0 1 0;f0 1 1;").toCharArray()) {
            calls++;
            due.is("type()", x.type(letter), calls);
        }
        due.is("house()", x.house(), 20);
        for (int f = 0; f < 5; f++) {
            due.is("drives()", x.drives(f, 4), 0);
        }
        calls += 1 + 5;
        while (calls + ROUND <= CALLS) {
            due.is("back(0)", x.back(0), 5);
            due.is("back(1)", x.back(1), 0);
            due.is("homing()", x.homing(), 16);
            due.is("apart(-1)", x.apart(-1), 3);
            due.is("apart(4)", x.apart(4), 1);
            due.is("ask()", x.ask(), 0);
            due.is("room(4, 5)", x.room(4, 5), 2);
            due.is("odds(1, 0, 0)", x.odds(1, 0, 0), 59049);
            calls += ROUND;
        }
        for (; calls < CALLS; calls++) {
            due.is("strays to the end", x.now(1), 31);
        }
    }
}
