/** Promises 2 to 4 at their boundaries (type, clear, house): each method holds a sentence of the document. */
public final class TextEdgesTest {
    private static final int BAD = PlushFlocks.BAD, FULL = PlushFlocks.FULL;
    private static final String ROOM = "r1 0;";
    private static final String FIVE_ROOMS = ROOM.repeat(5);
    private static final String FLOCK = "f0 1 0;";
    private static final Due due = new Due("TextEdgesTest");

    public static void main(String[] args) {
        aLetterIs0To255();
        textHas120LettersAtMost();
        badComesAheadOfFull();
        clearedTextIsEmpty();
        whatWasClearedIsNotRead();
        fullTextIsReadToItsEnd();
        readTextIsEmpty();
        itemsMayBeNone();
        itemsAreCounted();
        itemsAreEnded();
        blanksStandAnywhere();
        blanksAreNeededBetweenNumbersAlone();
        blankIs32();
        roomsAre5AtMost();
        holdsAre1To5();
        carpetIs0To60();
        roomHasTwoNumbers();
        doorsLeadToUnlikeRooms();
        doorsLeadToRoomsToldAhead();
        doorToldAgainIsAsItIs();
        doorHasTwoNumbers();
        flocksAre5AtMost();
        homeIsARoomToldAhead();
        hungerIs1To9();
        stuffIs0To2();
        flockHasThreeNumbers();
        fullIs1To99();
        fullIs20AtFirst();
        fullIsToldOnceAtMost();
        fullHasOneNumber();
        otherLettersAreFaults();
        itemsBeginWithALetter();
        numbersAreDueBehindALetter();
        numbersAbove99AreFaults();
        numbersWithA0AheadAreFaults();
        faultIsTheFirst();
        faultIsAtTheFirstLetterOfItsToken();
        faultAtTheEndIsTheLength();
        faultAheadOfTheEndIsItsOwn();
        due.end();
    }

    private static void aLetterIs0To255() {
        due.sentence("A letter (0 .. 255) comes to THE TEXT. BAD");
        for (int letter = 0; letter < 256; letter++) {
            due.is("type(" + letter + ")", new PlushFlocks().type(letter), 1);
        }
        PlushFlocks x = new PlushFlocks();
        due.is("type(-1)", x.type(-1), BAD);
        due.is("type(256)", x.type(256), BAD);
        due.refusesFar("type", x::type, BAD);
        due.is("letters", x.count(4), 0);
    }

    private static void textHas120LettersAtMost() {
        due.sentence("THE TEXT: 120 letters at most. FULL");
        PlushFlocks x = new PlushFlocks();
        due.type(x, " ".repeat(119));
        due.is("the 120th", x.type(32), 120);
        due.is("the 121st", x.type(32), FULL);
        due.is("the 121st", x.type(0), FULL);
        due.is("letters", x.count(4), 120);
        due.is("clear()", x.clear(), 120);
        due.is("there is room again", x.type(32), 1);
    }

    private static void badComesAheadOfFull() {
        due.sentence("Refused, the first of these: BAD, FULL (type)");
        PlushFlocks x = new PlushFlocks();
        due.type(x, " ".repeat(120));
        due.is("type(-1)", x.type(-1), BAD);
        due.is("type(256)", x.type(256), BAD);
        due.is("type(255)", x.type(255), FULL);
    }

    private static void clearedTextIsEmpty() {
        due.sentence("THE TEXT is empty: how many letters it had");
        PlushFlocks x = due.told(ROOM, 1);
        due.is("clear() of none", x.clear(), 0);
        due.is("type()", x.type('r'), 1);
        due.is("clear() of one", x.clear(), 1);
        due.is("letters", x.count(4), 0);
        due.is("clear() of none", x.clear(), 0);
        due.is("the house stays", x.count(0), 1);
    }

    private static void whatWasClearedIsNotRead() {
        due.sentence("THE TEXT is empty (what it had is not read any more)");
        PlushFlocks x = new PlushFlocks();
        due.type(x, "r1 60;" + ROOM);
        x.clear();
        due.type(x, "r1 6");
        due.is("house()", x.house(), -14);
        due.type(x, ";");
        due.is("house()", x.house(), 1);
        due.is("carpet", x.room(0, 1), 6);
        due.is("house() of nothing", x.house(), 0);
        due.is("rooms", x.count(0), 0);
        endsTooEarlyBehind(ROOM + "f0 99 0;", ROOM + "f0 9");
        endsTooEarlyBehind("r1 05;", "r1 0");
        endsTooEarlyBehind("n100;", "n10");
        endsTooEarlyBehind(ROOM + ROOM, ROOM + "r");
    }

    private static void endsTooEarlyBehind(String cleared, String typed) {
        PlushFlocks x = new PlushFlocks();
        due.type(x, cleared);
        x.clear();
        due.type(x, typed);
        due.is("house() of '" + typed + "'", x.house(), -10 - typed.length());
    }

    private static void fullTextIsReadToItsEnd() {
        due.sentence("They are a text (120 letters at most)");
        PlushFlocks x = due.told(FIVE_ROOMS + "d0 1;".repeat(18) + "d3 4;", 24);
        due.is("the last door", x.room(4, 2), 8);
        due.fault(FIVE_ROOMS + "d0 1;".repeat(18) + "d3 4 ", 120);
        due.fault(FIVE_ROOMS + "d0 1;".repeat(18) + "d3 44", 118);
        due.fault(FIVE_ROOMS + " ".repeat(94) + "r", 119);
        due.fault(" ".repeat(119) + ";", 119);
        due.fault(" ".repeat(116) + "n100", 117);
        due.fault(" ".repeat(117) + "n99", 120);
    }

    private static void readTextIsEmpty() {
        due.sentence("THE TEXT tells all anew, and is empty then");
        PlushFlocks x = due.told(ROOM, 1);
        due.is("letters", x.count(4), 0);
        due.is("clear()", x.clear(), 0);
        due.is("type()", x.type(32), 1);
        due.type(x, " ".repeat(119));
        due.is("house()", x.house(), 0);
        due.is("letters", x.count(4), 0);
    }

    private static void itemsMayBeNone() {
        due.sentence("ITEMS (none, too)");
        for (String text : new String[] {"", " ", " ".repeat(120)}) {
            PlushFlocks x = due.told("r2 7;f0 1 0;n5;", 3);
            due.tell(x, text, 0);
            due.is("rooms", x.count(0), 0);
            due.is("flocks", x.count(1), 0);
            due.is("full", x.count(2), 20);
            for (int what = 0; what <= 5; what++) {
                due.is("now(" + what + ")", x.now(what), 0);
            }
        }
    }

    private static void itemsAreCounted() {
        due.sentence("how many ITEMS");
        due.told("n1;", 1);
        due.told(ROOM, 1);
        due.told(ROOM + ROOM + "d0 1;", 3);
        due.told(FIVE_ROOMS + FLOCK.repeat(5) + "d0 1;".repeat(11) + "n99;", 22);
    }

    private static void itemsAreEnded() {
        due.sentence("ITEMS, each ended by ;");
        due.fault("r1 0 r1 0;", 5);
        due.fault("r1 0" + ROOM, 4);
        due.fault(ROOM + ROOM + "d0 1 d0 1;", 15);
        due.fault(ROOM + "f0 1 0n5;", 11);
        due.fault("n5 " + ROOM, 3);
        due.fault(";", 0);
        due.fault(ROOM + ";", 5);
        due.fault(ROOM + " ;", 6);
    }

    private static void blanksStandAnywhere() {
        due.sentence("blanks (32), any number, ahead of, between, behind TOKENS");
        PlushFlocks x = due.told("   r  5   60  ;  r 2 0 ;  d   0   1 ;  f  1  9  2  ;   n  99  ;   ", 5);
        due.is("holds", x.room(0, 0), 5);
        due.is("carpet", x.room(0, 1), 60);
        due.is("doors", x.room(0, 2), 2);
        due.is("hunger", x.flock(0, 1), 9);
        due.is("full", x.count(2), 99);
        due.told(" ".repeat(115) + ROOM, 1);
        due.told(ROOM + " ".repeat(115), 1);
        due.told("r" + " ".repeat(57) + "1" + " ".repeat(59) + "0;", 1);
    }

    private static void blanksAreNeededBetweenNumbersAlone() {
        due.sentence("blanks (needed only between two NUMBERS)");
        PlushFlocks x = due.told("r2 60;r1 0;d0 1;f0 9 1;n7;", 5);
        due.is("carpet", x.room(0, 1), 60);
        due.fault("r10;", 1);
        due.fault("r160;", 1);
        due.fault(ROOM + ROOM + "d01;", 11);
        due.fault(ROOM + "f011;", 6);
        due.fault("r1 6 0;", 5);
        due.fault("n9 9;", 3);
    }

    private static void blankIs32() {
        due.sentence("blanks (32)");
        for (int letter : new int[] {0, 9, 10, 11, 12, 13, 31, 33, 95, 160}) {
            due.fault((char) letter + ROOM, 0);
            due.fault("r1" + (char) letter + "0;", 2);
            due.fault(ROOM + (char) letter, 5);
        }
    }

    private static void roomsAre5AtMost() {
        due.sentence("ROOMS 0 .. (5 at most); a sixth r");
        PlushFlocks x = due.told(FIVE_ROOMS, 5);
        due.is("rooms", x.count(0), 5);
        due.is("the last", x.room(4, 0), 1);
        due.is("one more", x.room(5, 0), BAD);
        due.fault(FIVE_ROOMS + ROOM, 25);
        due.fault(FIVE_ROOMS + "r", 25);
        due.fault(FIVE_ROOMS + "  r 9 99 x", 27);
        due.fault(FIVE_ROOMS + "n5;" + FLOCK + "d0 1;r", 40);
    }

    private static void holdsAre1To5() {
        due.sentence("HOLDS (1 .. 5 FLOCKS)");
        for (int holds = 1; holds <= 5; holds++) {
            due.is("holds", due.told("r" + holds + " 0;", 1).room(0, 0), holds);
        }
        due.fault("r0 0;", 1);
        due.fault("r6 0;", 1);
        due.fault("r99 0;", 1);
        due.fault("r1 0; r 0 0;", 8);
    }

    private static void carpetIs0To60() {
        due.sentence("CARPET (0 .. 60)");
        for (int carpet = 0; carpet <= 60; carpet++) {
            due.is("carpet", due.told("r1 " + carpet + ";", 1).room(0, 1), carpet);
        }
        due.fault("r1 61;", 3);
        due.fault("r1 99;", 3);
        due.fault("r1 60;r5 61;", 9);
    }

    private static void roomHasTwoNumbers() {
        due.sentence("r H C (the next ROOM)");
        due.fault("r;", 1);
        due.fault("r1;", 2);
        due.fault("r1 0 0;", 5);
        due.fault("r1 0 61;", 5);
        PlushFlocks x = due.told("r1 2;r3 4;", 2);
        due.is("holds of the next", x.room(1, 0), 3);
        due.is("carpet of the next", x.room(1, 1), 4);
    }

    private static void doorsLeadToUnlikeRooms() {
        due.sentence("DOORS between two unlike ROOMS; B that is A");
        for (int a = 0; a < 5; a++) {
            for (int b = 0; b < 5; b++) {
                String text = FIVE_ROOMS + "d" + a + " " + b + ";";
                if (a == b) {
                    due.fault(text, 28);
                } else {
                    PlushFlocks x = due.told(text, 6);
                    due.is("beyond " + a, x.room(a, 2), 1 << b);
                    due.is("beyond " + b, x.room(b, 2), 1 << a);
                }
            }
        }
    }

    private static void doorsLeadToRoomsToldAhead() {
        due.sentence("d A B (a DOOR between ROOMS told ahead); a ROOM that there is not");
        due.fault("d0 1;", 1);
        due.fault(ROOM + "d1 0;", 6);
        due.fault(ROOM + "d0 1;", 8);
        due.fault(ROOM + "d0 1;" + ROOM, 8);
        due.fault(ROOM + ROOM + "d2 0;" + ROOM, 11);
        due.fault(FIVE_ROOMS + "d5 0;", 26);
        due.fault(FIVE_ROOMS + "d0 5;", 28);
        due.fault(FIVE_ROOMS + "d0 32;", 28);
        due.told(ROOM + ROOM + "d0 1;" + ROOM + "d2 1;", 5);
    }

    private static void doorToldAgainIsAsItIs() {
        due.sentence("DOORS (no more than one between two); told again: as it is");
        PlushFlocks x = due.told(ROOM + ROOM + ROOM + "d0 1;d0 1;d1 0;d2 1;d1 2;", 8);
        due.is("beyond 0", x.room(0, 2), 2);
        due.is("beyond 1", x.room(1, 2), 5);
        due.is("beyond 2", x.room(2, 2), 2);
    }

    private static void doorHasTwoNumbers() {
        due.sentence("d A B");
        due.fault(ROOM + ROOM + "d;", 11);
        due.fault(ROOM + ROOM + "d0;", 12);
        due.fault(ROOM + ROOM + "d0 1 0;", 15);
    }

    private static void flocksAre5AtMost() {
        due.sentence("FLOCKS 0 .. (5 at most); a sixth f");
        PlushFlocks x = due.told(ROOM + FLOCK.repeat(4) + "f0 9 2;", 6);
        due.is("flocks", x.count(1), 5);
        due.is("the last", x.flock(4, 1), 9);
        due.is("one more", x.flock(5, 1), BAD);
        due.is("no flocks", due.told(ROOM, 1).count(1), 0);
        due.fault(ROOM + FLOCK.repeat(6), 40);
        due.fault(ROOM + FLOCK.repeat(5) + "f", 40);
        due.fault(ROOM + FLOCK.repeat(5) + " f9 0 9", 41);
    }

    private static void homeIsARoomToldAhead() {
        due.sentence("f R N S (a FLOCK of a ROOM told ahead); a ROOM that there is not");
        for (int home = 0; home < 5; home++) {
            due.is("home", due.told(FIVE_ROOMS + "f" + home + " 1 0;", 6).flock(0, 0), home);
        }
        due.fault(FLOCK, 1);
        due.fault(FLOCK + ROOM, 1);
        due.fault(ROOM + "f1 1 0;" + ROOM, 6);
        due.fault(FIVE_ROOMS + "f5 1 0;", 26);
        due.fault(FIVE_ROOMS + "f64 1 0;", 26);
    }

    private static void hungerIs1To9() {
        due.sentence("HUNGER (1 .. 9)");
        for (int hunger = 1; hunger <= 9; hunger++) {
            due.is("hunger", due.told(ROOM + "f0 " + hunger + " 0;", 2).flock(0, 1), hunger);
        }
        due.fault(ROOM + "f0 0 0;", 8);
        due.fault(ROOM + "f0 10 0;", 8);
        due.fault(ROOM + "f0 99 0;", 8);
    }

    private static void stuffIs0To2() {
        due.sentence("STUFF (0 .. 2)");
        for (int stuff = 0; stuff <= 2; stuff++) {
            due.is("stuff", due.told(ROOM + "f0 1 " + stuff + ";", 2).flock(0, 2), stuff);
        }
        due.fault(ROOM + "f0 1 3;", 10);
        due.fault(ROOM + "f0 1 99;", 10);
    }

    private static void flockHasThreeNumbers() {
        due.sentence("f R N S");
        due.fault(ROOM + "f;", 6);
        due.fault(ROOM + "f0;", 7);
        due.fault(ROOM + "f0 1;", 9);
        due.fault(ROOM + "f0 1 0 0;", 12);
    }

    private static void fullIs1To99() {
        due.sentence("FULL (1 .. 99)");
        for (int full = 1; full <= 99; full++) {
            due.is("full", due.told("n" + full + ";", 1).count(2), full);
        }
        due.fault("n0;", 1);
        due.fault("n100;", 1);
    }

    private static void fullIs20AtFirst() {
        due.sentence("FULL (20 at first)");
        due.is("of a new object", new PlushFlocks().count(2), 20);
        due.is("not told", due.told(ROOM, 1).count(2), 20);
        PlushFlocks x = due.told("n19;", 1);
        due.tell(x, ROOM, 1);
        due.is("not told anew", x.count(2), 20);
    }

    private static void fullIsToldOnceAtMost() {
        due.sentence("n N (FULL; once at most); n again");
        due.fault("n5;n5;", 3);
        due.fault("n20; " + ROOM + "n", 10);
        due.fault("n1;n0;", 3);
        PlushFlocks x = due.told("n5;", 1);
        due.tell(x, "n6;", 1);
        due.is("once in each text", x.count(2), 6);
    }

    private static void fullHasOneNumber() {
        due.sentence("n N");
        due.fault("n;", 1);
        due.fault("n1 1;", 3);
        due.fault("n1 ;;", 4);
    }

    private static void otherLettersAreFaults() {
        due.sentence("FAULT: of any other letter, that TOKEN's");
        for (int letter = 0; letter < 256; letter++) {
            if (letter == ' ' || letter == ';' || "0123456789rdfn".indexOf(letter) >= 0) {
                continue;
            }
            String other = "" + (char) letter;
            due.fault(other, 0);
            due.fault("r" + other + "1 0;", 1);
            due.fault("r1" + other + "0;", 2);
            due.fault("r1 0" + other + ";", 4);
            due.fault(ROOM + other + ROOM, 5);
        }
    }

    private static void itemsBeginWithALetter() {
        due.sentence("FAULT: the first TOKEN that can't stand there (an ITEM's letter is due)");
        for (String text : new String[] {"0", "7", "10", "100", "00", ";"}) {
            due.fault(text, 0);
            due.fault(ROOM + " " + text, 6);
        }
        for (String text : new String[] {"r", "d", "f", "n"}) {
            due.fault(text, 1);
        }
    }

    private static void numbersAreDueBehindALetter() {
        due.sentence("FAULT: the first TOKEN that can't stand there (a NUMBER is due)");
        for (char letter : "rdfn;".toCharArray()) {
            due.fault(ROOM + "r" + letter, 6);
            due.fault(ROOM + "r1" + letter, 7);
            due.fault(ROOM + "d" + letter, 6);
            due.fault(ROOM + "d0" + letter, 7);
            due.fault(ROOM + "f" + letter, 6);
            due.fault(ROOM + "f0" + letter, 7);
            due.fault(ROOM + "f0 1" + letter, 9);
            due.fault(ROOM + "n" + letter, 6);
        }
    }

    private static void numbersAbove99AreFaults() {
        due.sentence("FAULT: a NUMBER above 99, that TOKEN's");
        for (String number : new String[] {"100", "101", "999", "1000", "257", "65537", "4294967297",
            "2147483649", "18446744073709551617", "1".repeat(99)}) {
            due.fault("r" + number + " 0;", 1);
            due.fault("r1  " + number + ";", 4);
            due.fault("n" + number, 1);
            due.fault(" " + number, 1);
        }
    }

    private static void numbersWithA0AheadAreFaults() {
        due.sentence("FAULT: a NUMBER with a 0 ahead of others, that TOKEN's");
        for (String number : new String[] {"00", "01", "05", "000", "001", "010", "0100", "0".repeat(99)}) {
            due.fault("r" + number + " 0;", 1);
            due.fault("r1 " + number + ";", 3);
            due.fault("n" + number, 1);
            due.fault(" " + number, 1);
        }
        due.is("a 0 alone", due.told("r1 0;", 1).room(0, 1), 0);
        due.is("a 0 behind", due.told("r1 10;", 1).room(0, 1), 10);
    }

    private static void faultIsTheFirst() {
        due.sentence("FAULT: the first TOKEN that can't stand there");
        due.fault("r6 61;x", 1);
        due.fault("r5 61;x", 3);
        due.fault("x;r6", 0);
        due.fault("r1 0;;n0;", 5);
        due.fault("n0;n0;", 1);
        due.fault(ROOM + "f1 0 3;", 6);
        due.fault(ROOM + "f0 0 3;", 8);
        due.fault("r1 d9", 3);
    }

    private static void faultIsAtTheFirstLetterOfItsToken() {
        due.sentence("FAULT: the place of the first letter of the TOKEN");
        due.fault("r   61 0;", 4);
        due.fault("r1   61;", 5);
        due.fault("  r1 99  ;", 5);
        due.fault("n   123456;", 4);
        due.fault("n   00;", 4);
        due.fault("n1   ;   n", 9);
    }

    private static void faultAtTheEndIsTheLength() {
        due.sentence("FAULT: the text's length, if it ends too early");
        String whole = "r2 9;  r1 40 ; d0 1;f0 5 1;n60;";
        String ends = ".";
        int items = 0;
        for (int length = 0; length <= whole.length(); length++) {
            String text = whole.substring(0, length);
            ends = length > 0 && text.charAt(length - 1) != ' ' ? text.substring(length - 1) : ends;
            boolean between = length == 0 || ends.equals(";");
            items += between && text.endsWith(";") ? 1 : 0;
            if (between) {
                due.told(text, items);
                due.told(text + "  ", items);
            } else {
                due.fault(text, length);
                due.fault(text + "  ", length + 2);
            }
        }
    }

    private static void faultAheadOfTheEndIsItsOwn() {
        due.sentence("FAULT: the first TOKEN that can't stand there (the text's last one, too)");
        due.fault("r0", 1);
        due.fault("r6", 1);
        due.fault("r1 61", 3);
        due.fault("n0", 1);
        due.fault("n100", 1);
        due.fault("n5 5", 3);
        due.fault("n5;n", 3);
        due.fault(ROOM + "d1", 6);
        due.fault(ROOM + "d0 0", 8);
        due.fault(ROOM + "f0 1 3", 10);
        due.fault("r1 x", 3);
    }
}
