import java.util.NoSuchElementException;

/** For each promise of the document: ordinary calls, the edges it names, and wrong ones, with answers found by hand. */
public final class UnsaidRoomPromises {
    static int wrong = 0;
    static final int NONE = UnsaidRoom.NONE;

    /** hall 0, dark 1 (unsaid), kit 2, att 3, deep 4 (unsaid), barn 5; gus 0, ann 1, tom 2, sue 3, tax 4. */
    static final String HOUSE = "room hall;unsaid dark holds 4;room kit;room att;unsaid deep holds 7;room barn;"
        + "door hall dark;door hall kit;door kit att;door att deep;door kit dark;"
        + "person gus guest age 40 in hall;person ann wife age 30 in kit;person tom child age 4 in hall;"
        + "person sue child age 3 in hall;person tax taxman age 50 in barn;";

    static void due(int promise, String what, long got, long want) {
        if (got != want) {
            wrong++;
            System.out.println("promise " + promise + ", " + what + ": answered " + got + ", due is " + want);
        }
    }

    static void due(int promise, String what, boolean got, boolean want) {
        due(promise, what, got ? 1 : 0, want ? 1 : 0);
    }

    static void tell(UnsaidRoom x, String text) {
        for (int i = 0; i < text.length(); i += 24) {
            x.feed(eight(text, i), eight(text, i + 8), eight(text, i + 16));
        }
    }

    static long eight(String text, int from) {
        long all = 0;
        for (int i = from; i < from + 8; i++) {
            all = all << 8 | (i < text.length() ? text.charAt(i) : 0);
        }
        return all;
    }

    static UnsaidRoom house(String more) {
        UnsaidRoom x = new UnsaidRoom();
        tell(x, HOUSE + more);
        due(3, "the house " + more, x.marches(), 0);
        return x;
    }

    static UnsaidRoom house() {
        return house("");
    }

    static int marches(String text) {
        UnsaidRoom x = new UnsaidRoom();
        tell(x, text);
        return x.marches();
    }

    static int fault(int kind, int place) {
        return kind + 16 * place;
    }

    static int evening(String text) {
        UnsaidRoom x = house();
        tell(x, text);
        return x.evening();
    }

    /** How long gus would stay in the dark by this law. */
    static int law(String e) {
        UnsaidRoom x = house("stays " + e + ";");
        return x.stay(0, 1);
    }

    static void minutes(UnsaidRoom x, int n) {
        for (int i = 0; i < n; i++) {
            x.minute();
        }
    }

    static void p1() {
        UnsaidRoom x = new UnsaidRoom();
        for (int k = 0; k <= 12; k++) {
            due(1, "count(" + k + ") of a new object", x.count(k), 0);
        }
        due(1, "NONE", NONE, -1);
        due(1, "undo", x.undo(), false);
        due(1, "mark back", x.mark(0, true), false);
    }

    static void p2() {
        UnsaidRoom x = new UnsaidRoom();
        due(2, "highest first", x.feed(eight("room a;u", 0), eight("nsaid b ", 0), eight("holds 2;", 0)), 24);
        due(2, "it was as told", x.marches(), 0);
        due(2, "b holds", x.room(1, 1), 2);
        due(2, "taken", x.count(12), 0);
        due(2, "zeros are left out", x.feed(0, 0, 0), 0);
        due(2, "others are left out", x.feed(0x091F7F80FFFE0B0DL, -1, 0x0101010101010101L), 0);
        due(2, "10, 32, 126 stay", x.feed(0x0A00200000007E00L, 0, 0), 3);
        UnsaidRoom y = new UnsaidRoom();
        for (int i = 1; i <= 41; i++) {
            due(2, "24 each", y.feed(eight("        ", 0), eight("        ", 0), eight("        ", 0)), 24 * i);
        }
        due(2, "1,000 at most", y.feed(eight("        ", 0), eight("       ;", 0), eight(";;;;;;;;", 0)), 1000);
        due(2, "still", y.feed(eight(";", 0), 0, 0), 1000);
        due(2, "the signs behind 1,000 are gone: ; at 999", y.marches(), fault(1, 999));
    }

    static void p3words() {
        due(3, "empty", marches(""), 0);
        due(3, "blanks", marches(" \n \n"), 0);
        due(3, "blanks where one likes", marches("\n room\na ; unsaid b\n\nholds 20;door a b;"), 0);
        due(3, "8 letters", marches("room abcdefgh;"), 0);
        due(3, "all letters", marches("room abcdefgz;room z;room zz;door zz z;"), 0);
        due(3, "0 and 9 are digits", marches("room a;person b wife age 09 in a;person c wife age 0 in a;"), 0);
        due(3, "9 letters", marches("room abcdefghi;"), fault(1, 5));
        due(3, "a number with a letter behind", marches("room a;person b wife age 7in a;"), 0);
        due(3, "a word with a number behind", marches("unsaid a holds7;"), 0);
        due(3, "4 digits", marches("unsaid a holds 0007;"), 0);
        due(3, "5 digits", marches("unsaid a holds 00007;"), fault(1, 15));
        due(3, "capitals", marches("room A;"), fault(1, 5));
        due(3, "a sign that is none", marches("room a>;"), fault(1, 6));
        due(3, "facts may be names", marches("room much;room nods;door much nods;"), 0);
        String[] kept = {"room", "unsaid", "holds", "door", "person", "age", "in", "stays", "walk", "show", "speak",
            "burn", "minute", "guest", "wife", "child", "taxman", "not", "and", "or"};
        for (String word : kept) {
            due(3, "no name: " + word, marches("room " + word + ";"), fault(1, 5));
        }
        due(3, "the end is a token", marches("room a"), fault(1, 6));
        due(3, "the end at the text's length", marches("room a  \n "), fault(1, 10));
        due(3, "no line", marches("walk a b;"), fault(1, 0));
        due(3, "only ;", marches(";"), fault(1, 0));
    }

    static void p3lines() {
        due(3, "name told", marches("room a;room a;"), fault(3, 12));
        due(3, "name of a person told", marches("room a;person b wife age 1 in a;unsaid b holds 1;"), fault(3, 39));
        due(3, "name of a room told", marches("room a;person a wife age 1 in a;"), fault(3, 14));
        due(3, "holds 0", marches("unsaid a holds 0;"), fault(4, 15));
        due(3, "holds 21", marches("unsaid a holds 21;"), fault(4, 15));
        due(3, "holds no number", marches("unsaid a holds b;"), fault(1, 15));
        due(3, "no holds", marches("unsaid a 3;"), fault(1, 9));
        due(3, "door of none", marches("room a;door b a;"), fault(2, 12));
        due(3, "door to none", marches("room a;door a b;"), fault(2, 14));
        due(3, "door of a person", marches("room a;person b wife age 1 in a;door a b;"), fault(2, 39));
        due(3, "door to itself", marches("room a;door a a;"), fault(3, 14));
        due(3, "both unsaid", marches("unsaid a holds 1;unsaid b holds 1;door a b;"), fault(3, 41));
        due(3, "door again", marches("room a;room b;door a b;door a b;"), fault(3, 30));
        due(3, "door from the other side", marches("room a;room b;door a b;door b a;"), fault(3, 30));
        due(3, "kind", marches("room a;person b king age 1 in a;"), fault(1, 16));
        due(3, "age 99", marches("room a;person b wife age 99 in a;"), 0);
        due(3, "age 100", marches("room a;person b wife age 100 in a;"), fault(4, 25));
        due(3, "in none", marches("room a;person b wife age 9 in c;"), fault(2, 30));
        due(3, "in oneself", marches("room a;person b wife age 9 in b;"), fault(2, 30));
        due(3, "in unsaid", marches("unsaid a holds 1;person b wife age 9 in a;"), fault(2, 40));
        due(3, "stays again", marches("stays 1;stays"), fault(3, 8));
        String eight = "room a;room b;unsaid c holds 1;room d;room e;room f;room g;room h;";
        due(3, "8 rooms", marches(eight), 0);
        due(3, "a ninth", marches(eight + "room i;"), fault(5, eight.length()));
        due(3, "a ninth, unsaid", marches(eight + "unsaid"), fault(5, eight.length()));
        String ten = eight + "door a b;door a c;door a d;door a e;door a f;door a g;door a h;door b c;door b d;door b e;";
        due(3, "10 doors", marches(ten), 0);
        due(3, "an eleventh", marches(ten + "door b f;"), fault(5, ten.length()));
        String five = "room a;person b wife age 1 in a;person c wife age 1 in a;person d child age 1 in a;"
            + "person e wife age 1 in a;person f wife age 1 in a;";
        due(3, "5 persons", marches(five), 0);
        due(3, "a sixth", marches(five + "person g wife age 1 in a;"), fault(5, five.length()));
    }

    static void p3laws() {
        due(3, "no e", marches("stays ;"), fault(1, 6));
        due(3, "a name", marches("stays age;"), fault(1, 6));
        due(3, "no fact", marches("stays foo;"), fault(1, 6));
        due(3, "two tests", marches("stays 1<2<3;"), fault(1, 9));
        due(3, "< and =", marches("stays 1=2<3;"), fault(1, 9));
        due(3, "no sign", marches("stays 1 2;"), fault(1, 8));
        due(3, "minus alone", marches("stays -1;"), fault(1, 6));
        due(3, "not closed", marches("stays (1;"), fault(1, 8));
        due(3, "closed too often", marches("stays 1);"), fault(1, 7));
        due(3, "within 4", marches("stays ((((1))));"), 0);
        due(3, "within 5", marches("stays (((((1)))));"), fault(5, 11));
        due(3, "sixth (", marches("stays ((((((1))))));"), fault(5, 11));
        due(3, "four nots", marches("stays not not not not 1;"), 0);
        due(3, "five nots", marches("stays not not not not not 1;"), fault(5, 26));
        due(3, "sixth not", marches("stays not not not not not not 1;"), fault(5, 26));
        due(3, "mixed", marches("stays (not(not much));"), 0);
        due(3, "mixed within 5", marches("stays (not(not(much)));"), fault(5, 15));
        due(3, "the least: can't stand there", marches("stays (((((;"), fault(1, 11));
        due(3, "depth is of those around", marches("stays ((((1))))+((((1))));"), 0);
        due(3, "number of five digits", marches("stays 10000;"), fault(1, 6));
        due(3, "number of four digits", law("9999-9990"), 9);
        due(3, "without stays: much", house().stay(0, 1), 4);
        due(3, "and, or from the left", law("1 or 1 and 0"), 1);
        due(3, "or at last", law("(0 and 0 or 1)+4"), 5);
        String[] tests = {"0 and 0", "0 and 7", "5 and 0", "5 and 7", "0 or 0", "0 or 7", "5 or 0", "5 or 7", "1 and 1",
            "1 or 0", "0 or 1", "1 and 0", "0 and 1", "3<2", "2<3", "3<3", "3=3", "3=2", "not 0", "not 1", "not 7"};
        int[] ones = {0, 0, 0, 1, 0, 1, 1, 1, 1, 1, 1, 0, 0, 0, 1, 0, 1, 0, 1, 0, 0};
        for (int i = 0; i < tests.length; i++) {
            due(3, tests[i], law("(" + tests[i] + ")*7+2"), ones[i] * 7 + 2);
        }
        due(3, "0 is cut to 1", law("0"), 1);
        due(3, "0 in a sum", law("0+3"), 3);
        due(3, "and is 1, told", law("(5 and 7)+6"), 7);
        due(3, "not binds tighter", law("not 0+5"), 6);
        due(3, "not of not 0", law("not 3+5"), 5);
        due(3, "product first", law("2+3*4"), 14);
        due(3, "from the left", law("20-5-3"), 12);
        due(3, "< of sums", law("(1+1<3)+8"), 9);
        due(3, "= of sums", law("(1+2=3)*8"), 8);
        due(3, "= not so", law("(1+2=4)+8"), 8);
        due(3, "facts", law("much*1+times*5+years-20+nods*9"), 24);
        due(3, "a word close to a number", law("2*not 0+4and 1"), 1);
        due(3, "ints wrap", law("9999*9999*9999*9999-(9999*9999*9999*9999-1)+6"), 7);
        due(3, "the deepest", law("2+5*(0 or 0<0+1*(0 or 0<0+1*(0 or 0<0+1*(0 or 0<0+1*2))))"), 7);
        longLaw();
        due(3, "wrapped sign", law("(9999*9999*22<0)+2"), 9999 * 9999 * 22 < 0 ? 3 : 2);
    }

    /** The longest law that has room on the TAPE, to its last sign. */
    static void longLaw() {
        StringBuilder text = new StringBuilder("room a;unsaid u holds 1;person p wife age 1 in a;stays 3");
        while (text.length() < 996) {
            text.append("+1-1");
        }
        text.append("+7 ;");
        UnsaidRoom x = new UnsaidRoom();
        tell(x, text.toString());
        due(3, "1,000 signs", x.count(12), 1000);
        due(3, "a long law", x.marches(), 0);
        due(3, "its stay", x.stay(0, 1), 10);
    }

    static void p3state() {
        UnsaidRoom x = house();
        x.show(0, 1);
        minutes(x, 4);
        x.see(0, 4, true);
        x.mark(0, false);
        tell(x, "minute;");
        x.evening();
        tell(x, "room;");
        due(3, "fault", x.marches(), fault(1, 4));
        due(3, "the tape is taken", x.count(12), 0);
        due(3, "all stays: rooms", x.count(0), 6);
        due(3, "all stays: minute", x.count(3), 4);
        due(3, "all stays: nods", x.count(4), 1);
        due(3, "all stays: evening", x.count(9), 1);
        due(3, "all stays: seen", x.count(10), 1);
        due(3, "all stays: undo", x.count(11), 5);
        due(3, "all stays: mark", x.mark(0, true), true);
        x.minute();
        tell(x, HOUSE);
        due(3, "again", x.marches(), 0);
        for (int k = 3; k <= 12; k++) {
            if (k != 5) {
                due(3, "anew: count " + k, x.count(k), 0);
            }
        }
        due(3, "anew: shown in", x.person(0, 4), 0);
        due(3, "anew: been", x.been(0), 0);
        due(3, "anew: no mark", x.mark(0, true), false);
        due(3, "empty marches", x.marches(), 0);
        due(3, "nothing is left", x.count(0) + x.count(1) + x.count(2) + x.count(5), 0);
        tell(x, "room a;unsaid b holds 3;room c;stays 9;person p wife age 1 in c;");
        x.marches();
        tell(x, "room c;unsaid b holds 3;person p wife age 1 in c;");
        due(3, "of the marches ahead no name is told", x.marches(), 0);
        due(3, "nor any law", x.stay(0, 1), 3);
        tell(x, "room c;unsaid b holds 3;stays 8;door c b;person p wife age 1 in c;");
        due(3, "nor stays", x.marches(), 0);
        x.show(0, 1);
        x.burn(0);
        tell(x, "room c;unsaid b holds 3;");
        due(3, "nor doors", x.marches(), 0);
        due(3, "none of c", x.room(0, 2), 0);
        due(3, "nor fire", x.count(6), 0);
    }

    static void p4() {
        due(4, "empty", evening(""), 0);
        due(4, "all words", evening("walk gus kit;show gus dark;speak gus;burn hall;minute;"), 0);
        due(4, "lines that can't be are told all the same", evening("walk gus barn;show gus kit;burn dark;speak ann;"), 0);
        due(4, "no person", evening("walk hall kit;"), fault(2, 5));
        due(4, "no person to speak", evening("speak nobody;"), fault(2, 6));
        due(4, "no room", evening("walk gus ann;"), fault(2, 9));
        due(4, "no room to show", evening("show gus x;"), fault(2, 9));
        due(4, "no room to burn", evening("burn gus;"), fault(2, 5));
        due(4, "no name", evening("walk in kit;"), fault(1, 5));
        due(4, "one word too many", evening("minute gus;"), fault(1, 7));
        due(4, "another word", evening("room a;"), fault(1, 0));
        due(4, "not ended", evening("minute"), fault(1, 6));
        StringBuilder forty = new StringBuilder();
        for (int i = 0; i < 40; i++) {
            forty.append("minute;");
        }
        due(4, "40 lines", evening(forty.toString()), 0);
        due(4, "a 41st", evening(forty + "burn hall;"), fault(5, 280));
        due(4, "a 41st that can't stand there", evening(forty + "rest;"), fault(1, 280));
        UnsaidRoom x = house();
        tell(x, "minute;minute;");
        x.evening();
        due(4, "lines", x.count(9), 2);
        tell(x, "minute;rest");
        due(4, "fault", x.evening(), fault(1, 7));
        due(4, "all stays", x.count(9), 2);
        due(4, "taken", x.count(12), 0);
        due(4, "nothing was done by telling it", x.count(3), 0);
    }

    static void p5() {
        UnsaidRoom x = house();
        due(5, "unsaid", x.room(1, 0), 1);
        due(5, "not unsaid", x.room(0, 0), 0);
        due(5, "holds", x.room(4, 1), 7);
        due(5, "holds nothing", x.room(0, 1), 0);
        due(5, "doors of kit", x.room(2, 2), 1 + 2 + 8);
        due(5, "doors of dark", x.room(1, 2), 1 + 4);
        due(5, "no doors", x.room(5, 2), 0);
        due(5, "not burnt", x.room(3, 3), 0);
        x.burn(3);
        due(5, "burnt", x.room(3, 3), 1);
        due(5, "who is in the hall", x.room(0, 4), 1 + 4 + 8);
        x.show(2, 1);
        due(5, "who is in the hall then", x.room(0, 4), 1 + 8);
        due(5, "who is inside", x.room(1, 4), 4);
        due(5, "room 6", x.room(6, 0), NONE);
        due(5, "room -1", x.room(-1, 0), NONE);
        due(5, "what 5", x.room(0, 5), NONE);
        due(5, "what -1", x.room(0, -1), NONE);
    }

    static void p6() {
        UnsaidRoom x = house();
        int[] kinds = {0, 1, 2, 2, 3};
        int[] ages = {40, 30, 4, 3, 50};
        int[] rooms = {0, 2, 0, 0, 5};
        for (int p = 0; p < 5; p++) {
            due(6, "kind " + p, x.person(p, 0), kinds[p]);
            due(6, "age " + p, x.person(p, 1), ages[p]);
            due(6, "room " + p, x.person(p, 2), rooms[p]);
            due(6, "more " + p, x.person(p, 3), NONE);
            due(6, "times " + p, x.person(p, 4), 0);
            due(6, "spoken " + p, x.person(p, 5), 0);
        }
        x.show(0, 1);
        due(6, "room inside", x.person(0, 2), 1);
        due(6, "more", x.person(0, 3), 4);
        due(6, "times", x.person(0, 4), 1);
        minutes(x, 3);
        due(6, "more by 3", x.person(0, 3), 1);
        minutes(x, 1);
        due(6, "out", x.person(0, 3), NONE);
        x.speak(0);
        due(6, "spoken", x.person(0, 5), 1);
        due(6, "never shown in then", x.person(0, 4), 0);
        due(6, "person 5", x.person(5, 0), -2);
        due(6, "person -1", x.person(-1, 3), -2);
        due(6, "what 6", x.person(0, 6), -2);
        due(6, "what -1", x.person(0, -1), -2);
    }

    static void p7() {
        UnsaidRoom x = house();
        due(7, "by a door", x.walk(0, 2), true);
        due(7, "there", x.person(0, 2), 2);
        due(7, "no door", x.walk(0, 5), false);
        due(7, "where one is", x.walk(0, 2), false);
        due(7, "unsaid", x.walk(0, 1), false);
        due(7, "a child of 3 may", x.walk(3, 2), true);
        x.burn(3);
        due(7, "burnt", x.walk(0, 3), false);
        x.show(1, 1);
        due(7, "inside", x.walk(1, 2), false);
        due(7, "room 6", x.walk(0, 6), false);
        due(7, "room -1", x.walk(0, -1), false);
        due(7, "person 5", x.walk(5, 2), false);
        due(7, "person -1", x.walk(-1, 2), false);
    }

    static void p8() {
        UnsaidRoom x = house();
        due(8, "a child of 3", x.show(3, 1), NONE);
        due(8, "no door", x.show(0, 4), NONE);
        due(8, "not unsaid", x.show(0, 2), NONE);
        due(8, "shown in", x.show(0, 1), 4);
        due(8, "not free", x.show(1, 1), NONE);
        due(8, "inside already", x.show(0, 1), NONE);
        minutes(x, 4);
        due(8, "a child of 4", x.show(2, 1), 4);
        minutes(x, 4);
        x.speak(0);
        due(8, "has spoken", x.show(0, 1), NONE);
        due(8, "a wife", x.show(1, 1), 4);
        due(8, "room 6", x.show(0, 6), NONE);
        due(8, "person 5", x.show(5, 1), NONE);
        due(8, "person -1, room -1", x.show(-1, -1), NONE);
        UnsaidRoom y = new UnsaidRoom();
        tell(y, "room a;unsaid b holds 1;door a b;person t taxman age 9 in a;person c guest age 1 in a;stays 99;");
        y.marches();
        due(8, "a taxman", y.show(0, 1), NONE);
        due(8, "a guest of 1, 30 at most", y.show(1, 1), 30);
        UnsaidRoom z = house("stays 5-nods-times*9;");
        due(8, "by the e", z.show(0, 1), 5);
        minutes(z, 5);
        due(8, "by the nods", z.show(1, 1), 4);
        minutes(z, 4);
        due(8, "1 at least", z.show(0, 1), 1);
    }

    static void p9() {
        UnsaidRoom x = house();
        due(9, "never shown in", x.speak(0), false);
        x.show(0, 1);
        due(9, "inside", x.speak(0), false);
        minutes(x, 4);
        due(9, "been", x.been(0), 4);
        due(9, "speaks", x.speak(0), true);
        due(9, "nor any minute", x.been(0), 0);
        due(9, "nods stay", x.count(4), 1);
        due(9, "again", x.speak(0), false);
        x.show(1, 1);
        minutes(x, 4);
        due(9, "a wife", x.speak(1), false);
        due(9, "person 5", x.speak(5), false);
        due(9, "person -1", x.speak(-1), false);
    }

    static void p10() {
        UnsaidRoom x = house();
        due(10, "somebody is in it", x.burn(0), NONE);
        due(10, "unsaid", x.burn(1), NONE);
        due(10, "people stop it", x.burn(3), 1);
        due(10, "burnt", x.burn(3), NONE);
        due(10, "room 6", x.burn(6), NONE);
        due(10, "room -1", x.burn(-1), NONE);
        UnsaidRoom y = house();
        y.show(1, 1);
        due(10, "on and on", y.burn(3), 2);
        due(10, "burnt bits", y.count(6), 4 + 8);
        due(10, "not by unsaid ones", y.room(1, 3) + y.room(4, 3), 0);
        UnsaidRoom z = new UnsaidRoom();
        tell(z, "room a;unsaid u holds 1;room b;door a u;door u b;");
        z.marches();
        due(10, "it does not go through unsaid ones", z.burn(0), 1);
    }

    static void p11() {
        UnsaidRoom x = house();
        due(11, "nobody", x.minute(), 0);
        x.show(0, 1);
        x.walk(1, 3);
        x.show(1, 4);
        minutes(x, 3);
        due(11, "gus comes out", x.minute(), 1);
        due(11, "from where he was shown in", x.person(0, 2), 0);
        due(11, "a nod", x.count(4), 1);
        due(11, "the minute", x.count(3), 5);
        minutes(x, 2);
        due(11, "ann comes out", x.minute(), 2);
        due(11, "two nods", x.count(4), 2);
        due(11, "been", x.been(1), 7);
        UnsaidRoom y = new UnsaidRoom();
        tell(y, "room a;room b;room c;unsaid u holds 2;unsaid v holds 2;door c u;door u b;door a v;"
            + "person p guest age 9 in c;person q wife age 9 in a;");
        y.marches();
        y.show(0, 3);
        y.show(1, 4);
        y.burn(2);
        y.burn(0);
        minutes(y, 1);
        due(11, "p finds another room, q none", y.minute(), 1);
        due(11, "the first by a door", y.person(0, 2), 1);
        due(11, "q is inside for good", y.person(1, 3), 0);
        due(11, "one nod", y.count(4), 1);
        minutes(y, 3);
        due(11, "still", y.person(1, 3), 0);
        due(11, "been inside no longer", y.been(1), 2);
        due(11, "where", y.person(1, 2), 4);
        UnsaidRoom z = new UnsaidRoom();
        tell(z, "room a;room b;room c;unsaid u holds 1;door c u;door u b;door u a;person p guest age 9 in c;");
        z.marches();
        z.show(0, 3);
        z.burn(2);
        z.minute();
        due(11, "the first room, not the first door", z.person(0, 2), 0);
        UnsaidRoom w = new UnsaidRoom();
        tell(w, "room a;room b;unsaid u holds 2;unsaid v holds 2;door a u;door b v;person p wife age 9 in a;person q child age 9 in b;");
        w.marches();
        w.show(0, 2);
        w.show(1, 3);
        w.minute();
        due(11, "two at once", w.minute(), 3);
        due(11, "nods of both", w.count(4), 2);
    }

    static void p12() {
        UnsaidRoom x = house();
        due(12, "nothing", x.undo(), false);
        x.walk(2, 2);
        x.show(0, 1);
        minutes(x, 4);
        x.speak(0);
        x.burn(3);
        x.walk(0, 5);
        due(12, "what can't be isn't undone", x.count(11), 8);
        due(12, "burn", x.undo(), true);
        due(12, "not burnt", x.count(6), 0);
        due(12, "speak", x.undo(), true);
        due(12, "not spoken", x.count(8), 0);
        due(12, "been again", x.been(0), 4);
        due(12, "times again", x.person(0, 4), 1);
        due(12, "minute", x.undo(), true);
        due(12, "no nod", x.count(4), 0);
        due(12, "minute 3", x.count(3), 3);
        due(12, "inside again", x.person(0, 3), 1);
        for (int i = 0; i < 3; i++) {
            x.undo();
        }
        due(12, "show", x.undo(), true);
        due(12, "in the hall", x.person(0, 2), 0);
        due(12, "walk", x.undo(), true);
        due(12, "tom, too", x.person(2, 2), 0);
        due(12, "nothing any more", x.undo(), false);
        minutes(x, 20);
        due(12, "16", x.count(11), 16);
        for (int i = 0; i < 16; i++) {
            due(12, "one by one", x.undo(), true);
        }
        due(12, "the last 16", x.undo(), false);
        due(12, "minute 4", x.count(3), 4);
        x.see(0, 4, true);
        tell(x, "minute;");
        x.evening();
        x.minute();
        x.undo();
        due(12, "seen stays", x.count(10), 1);
        due(12, "the evening stays", x.count(9), 1);
    }

    static void p13() {
        UnsaidRoom x = house();
        due(13, "no evening", x.judged(0), NONE);
        due(13, "no nod", x.judged(1), NONE);
        due(13, "no minutes", x.judged(2), 0);
        tell(x, "show gus dark;minute;show ann dark;minute;minute;minute;walk ann hall;speak ann;show ann dark;minute;");
        x.evening();
        x.walk(0, 2);
        x.burn(3);
        minutes(x, 3);
        due(13, "first that can't be", x.judged(0), 2);
        due(13, "first nod", x.judged(1), 5);
        due(13, "minutes", x.judged(2), 5);
        due(13, "what 3", x.judged(3), -2);
        due(13, "what -1", x.judged(-1), -2);
        due(13, "all is as ahead", x.count(3), 3);
        due(13, "nothing to undo by it", x.count(11), 5);
        tell(x, "burn att;walk ann att;");
        x.evening();
        due(13, "burn by a line", x.judged(0), 1);
        tell(x, "show gus dark;minute;minute;minute;minute;speak gus;minute;");
        x.evening();
        due(13, "all can be", x.judged(0), NONE);
        due(13, "spoken: no minutes", x.judged(2), 0);
    }

    static UnsaidRoom stuck() {
        UnsaidRoom x = new UnsaidRoom();
        tell(x, "room a;unsaid u holds 2;room b;door a u;door a b;person p guest age 9 in a;person q wife age 9 in b;");
        x.marches();
        x.show(0, 1);
        x.burn(0);
        return x;
    }

    static void p14to18() {
        UnsaidRoom x = house();
        due(14, "nobody", x.host(1), NONE);
        due(15, "free now", x.frees(1), 0);
        due(17, "not inside", x.out(0), NONE);
        due(18, "calm now", x.calm(), 0);
        x.walk(1, 3);
        x.show(1, 4);
        x.show(2, 1);
        x.minute();
        due(14, "host of dark", x.host(1), 2);
        due(14, "host of deep", x.host(4), 1);
        due(14, "not unsaid", x.host(0), NONE);
        due(14, "room 6", x.host(6), NONE);
        due(14, "room -1", x.host(-1), NONE);
        due(15, "dark", x.frees(1), 3);
        due(15, "deep", x.frees(4), 6);
        due(15, "not unsaid", x.frees(0), NONE);
        due(15, "room 6", x.frees(6), NONE);
        due(15, "room -1", x.frees(-1), NONE);
        due(16, "now", x.later(2, 0), 1);
        due(16, "inside", x.later(2, 2), 1);
        due(16, "out", x.later(2, 3), 0);
        due(16, "ann at 60", x.later(1, 60), 3);
        due(16, "who stands", x.later(4, 60), 5);
        due(16, "61", x.later(1, 61), NONE);
        due(16, "-1", x.later(1, -1), NONE);
        due(16, "person 5", x.later(5, 1), NONE);
        due(16, "person -1", x.later(-1, 1), NONE);
        due(17, "tom", x.out(2), 3);
        due(17, "ann", x.out(1), 6);
        due(17, "person 5", x.out(5), NONE);
        due(17, "person -1", x.out(-1), NONE);
        due(18, "calm", x.calm(), 6);
        due(18, "all is as ahead", x.count(3), 1);
        UnsaidRoom y = stuck();
        due(15, "never free", y.frees(1), NONE);
        due(16, "inside for good", y.later(0, 60), 1);
        due(17, "never out", y.out(0), NONE);
        due(18, "never calm", y.calm(), NONE);
        due(28, "never free", y.queue(1, NONE), -2);
        due(28, "nor any", y.queue(1, 0), -2);
        minutes(y, 2);
        due(14, "still the host", y.host(1), 0);
        due(17, "never out of 0 minutes", y.out(0), NONE);
    }

    static void p19to21() {
        UnsaidRoom x = house("stays much+times*3+years-nods-20;");
        due(19, "gus", x.may(0), 2);
        due(19, "ann", x.may(1), 2);
        due(19, "tom", x.may(2), 2);
        due(19, "sue", x.may(3), 0);
        due(19, "tax", x.may(4), 0);
        due(19, "person 5", x.may(5), NONE);
        due(19, "person -1", x.may(-1), NONE);
        due(20, "gus", x.goes(0), 4);
        due(20, "ann", x.goes(1), 1 + 8);
        due(20, "tax", x.goes(4), 0);
        due(20, "person 5", x.goes(5), NONE);
        due(20, "person -1", x.goes(-1), NONE);
        due(21, "gus, dark", x.stay(0, 1), 24);
        due(21, "gus, deep, where he is not", x.stay(0, 4), 27);
        due(21, "tax, may he or not", x.stay(4, 1), 30);
        due(21, "sue: 1 at least", x.stay(3, 1), 1);
        due(21, "not unsaid", x.stay(0, 0), NONE);
        due(21, "person 5", x.stay(5, 1), NONE);
        due(21, "room 6", x.stay(0, 6), NONE);
        due(21, "person -1", x.stay(-1, 1), NONE);
        x.show(1, 1);
        due(21, "shown in once", x.stay(1, 4), 20);
        due(19, "not free", x.may(0), 0);
        due(19, "inside", x.may(1), 0);
        due(20, "inside", x.goes(1), 0);
        x.burn(3);
        due(20, "burnt", x.goes(0), 0);
        minutes(x, 14);
        due(21, "by nods", x.stay(0, 1), 23);
        UnsaidRoom y = new UnsaidRoom();
        tell(y, "room a;unsaid u holds 2;unsaid v holds 2;door a u;door v a;person p guest age 9 in a;");
        y.marches();
        due(19, "two", y.may(0), 6);
    }

    static void p22to27() {
        UnsaidRoom x = house();
        due(22, "hall", x.reach(0), 13);
        due(22, "att", x.reach(3), 13);
        due(22, "barn", x.reach(5), 32);
        due(22, "unsaid", x.reach(1), NONE);
        due(22, "room 6", x.reach(6), NONE);
        due(22, "room -1", x.reach(-1), NONE);
        due(23, "same", x.far(3, 3), 0);
        due(23, "one", x.far(0, 2), 1);
        due(23, "two", x.far(3, 0), 2);
        due(23, "never", x.far(0, 5), NONE);
        due(23, "unsaid", x.far(0, 1), NONE);
        due(23, "unsaid from", x.far(1, 1), NONE);
        due(23, "from unsaid", x.far(1, 0), NONE);
        due(23, "room 6", x.far(6, 0), NONE);
        due(23, "room -1", x.far(0, -1), NONE);
        due(24, "halls", x.halls(), 2);
        due(25, "hinges", x.hinges(), 4);
        due(26, "hall", x.lines(0), 5);
        due(26, "barn", x.lines(5), 1);
        due(26, "unsaid", x.lines(4), NONE);
        due(26, "room 6", x.lines(6), NONE);
        due(26, "room -1", x.lines(-1), NONE);
        due(27, "att burns", x.fire(3, 0), 1);
        due(27, "deep is found standing", x.fire(3, 1), 1);
        due(27, "somebody is in it", x.fire(0, 0), NONE);
        due(27, "unsaid", x.fire(1, 0), NONE);
        due(27, "room 6", x.fire(6, 0), NONE);
        due(27, "room -1", x.fire(-1, 1), NONE);
        due(27, "what 2", x.fire(3, 2), NONE);
        due(27, "what -1", x.fire(3, -1), NONE);
        x.show(1, 1);
        due(27, "kit and att", x.fire(2, 0), 2);
        due(27, "dark and deep", x.fire(2, 1), 2);
        due(27, "nothing is burnt by asking", x.count(6), 0);
        x.burn(2);
        due(22, "cut off", x.reach(0), 1);
        due(22, "burnt", x.reach(2), NONE);
        due(23, "burnt", x.far(0, 2), NONE);
        due(24, "halls", x.halls(), 2);
        due(25, "no hinges", x.hinges(), 0);
        due(26, "hall and dark", x.lines(0), 2);
        due(26, "burnt", x.lines(3), NONE);
        due(27, "burnt", x.fire(3, 0), NONE);
        UnsaidRoom ring = new UnsaidRoom();
        tell(ring, "room a;room b;room c;room d;unsaid u holds 1;door a b;door b c;door c d;door d a;door a u;");
        ring.marches();
        due(23, "the shorter way", ring.far(0, 3), 1);
        due(25, "a ring has none", ring.hinges(), 0);
        due(27, "all burns", ring.fire(2, 0), 4);
        ring.burn(0);
        due(24, "all is burnt", ring.halls(), 0);
        UnsaidRoom row = new UnsaidRoom();
        tell(row, "room a;room b;room c;room d;room e;room f;room g;room h;"
            + "door a b;door b c;door c d;door d e;door e f;door f g;door g h;");
        row.marches();
        due(23, "seven", row.far(0, 7), 7);
        due(22, "all", row.reach(4), 255);
        due(25, "all but the ends", row.hinges(), 126);
        UnsaidRoom star = new UnsaidRoom();
        tell(star, "room a;room b;room c;door a b;door a c;");
        star.marches();
        due(25, "the first", star.hinges(), 1);
    }

    static void p28() {
        UnsaidRoom x = house();
        due(28, "4 + 8 + 12", x.queue(1, NONE), 24);
        due(28, "of equal ones the first row", x.queue(1, 0), 0);
        due(28, "second", x.queue(1, 1), 1);
        due(28, "third", x.queue(1, 2), 2);
        due(28, "no fourth", x.queue(1, 3), -2);
        due(28, "what -2", x.queue(1, -2), -2);
        due(28, "not unsaid", x.queue(0, NONE), -2);
        due(28, "room 6", x.queue(6, NONE), -2);
        due(28, "room -1", x.queue(-1, NONE), -2);
        UnsaidRoom y = house("stays years-nods;");
        // tom 4, then gus 30 (of 39), then ann 28: 4 + 34 + 62; as much as tom, ann, gus: 4 + 33 + 63
        due(28, "the least first", y.queue(1, NONE), 100);
        due(28, "tom", y.queue(1, 0), 2);
        due(28, "gus, the first of equal rows", y.queue(1, 1), 0);
        due(28, "ann", y.queue(1, 2), 1);
        y.show(2, 1);
        y.minute();
        // free in 3, a nod of tom's: gus 30, ann 28: 33 + 61
        due(28, "behind the host, with his nod", y.queue(1, NONE), 94);
        due(28, "the other room: no nod of tom's, gus 30, ann 29", y.queue(4, NONE), 30 + 59);
        due(28, "first of the other room", y.queue(4, 0), 0);
        UnsaidRoom z = house("stays (years<35)*nods*10+5;");
        // gus 5, tom, ann: who is late stays longer; ann or tom first: 5 + 10 + 35 = 50 (gus second, then 25)
        due(28, "nods of those ahead", z.queue(1, NONE), 5 + 10 + 35);
        due(28, "ann first", z.queue(1, 0), 1);
        due(28, "gus second", z.queue(1, 1), 0);
        UnsaidRoom n = new UnsaidRoom();
        tell(n, "room a;unsaid u holds 2;door a u;person t taxman age 9 in a;");
        n.marches();
        due(28, "nobody", n.queue(1, NONE), 0);
        due(28, "nobody is first", n.queue(1, 0), -2);
        UnsaidRoom s = house();
        s.show(0, 1);
        minutes(s, 4);
        s.speak(0);
        due(28, "not who has spoken", s.queue(1, NONE), 12);
        due(28, "by times", house("stays times+1;").queue(1, NONE), 6);
    }

    static void p29to31() {
        UnsaidRoom x = house();
        due(29, "none", x.longest(), NONE);
        due(30, "none", x.as(), 0);
        UnsaidRoom one = new UnsaidRoom();
        tell(one, "room a;room b;unsaid u holds 1;unsaid v holds 1;door a u;door b v;"
            + "person p wife age 9 in a;person q wife age 9 in b;");
        one.marches();
        one.show(0, 2);
        one.minute();
        due(29, "one minute", one.longest(), 0);
        one.show(1, 3);
        one.minute();
        due(30, "one minute each", one.as(), 1);
        x.show(2, 1);
        minutes(x, 4);
        due(29, "tom", x.longest(), 2);
        due(31, "tom", x.been(2), 4);
        due(31, "gus", x.been(0), 0);
        due(30, "no pair of nothing", x.as(), 0);
        x.show(0, 1);
        minutes(x, 4);
        due(29, "of equal ones the first", x.longest(), 0);
        due(30, "gus and tom", x.as(), 1);
        x.show(1, 1);
        minutes(x, 4);
        due(30, "three pairs", x.as(), 3);
        x.show(1, 1);
        minutes(x, 1);
        due(29, "ann", x.longest(), 1);
        due(31, "all together", x.been(1), 5);
        due(31, "person 5", x.been(5), NONE);
        due(31, "person -1", x.been(-1), NONE);
    }

    static boolean marchesAlike(String text) {
        UnsaidRoom x = new UnsaidRoom();
        tell(x, text);
        x.marches();
        return x.alike();
    }

    static void p32to33() {
        due(32, "nothing", new UnsaidRoom().alike(), true);
        due(32, "4 and 7", house().alike(), false);
        due(32, "5 and 5", house("stays 5;").alike(), true);
        due(32, "30 at most", house("stays much*10;").alike(), true);
        due(32, "for one alone not", house("stays much*(years=50);").alike(), false);
        due(32, "for the first alone not", house("stays much*(years=40);").alike(), false);
        due(32, "a room 0, too", marchesAlike("unsaid a holds 1;unsaid b holds 2;room c;person p wife age 1 in c;"), false);
        UnsaidRoom x = new UnsaidRoom();
        tell(x, "unsaid a holds 1;unsaid b holds 2;");
        x.marches();
        due(32, "nobody", x.alike(), true);
        UnsaidRoom y = house();
        due(33, "tax", y.widows(), 16);
        y.walk(1, 3);
        y.burn(2);
        due(33, "sue, too, and ann may", y.widows(), 16 + 8);
        y.show(0, 1);
        due(33, "tom, while gus is inside", y.widows(), 16 + 8 + 4);
        UnsaidRoom lone = new UnsaidRoom();
        tell(lone, "room a;person p wife age 1 in a;");
        lone.marches();
        due(33, "the first", lone.widows(), 1);
        due(33, "of nothing", new UnsaidRoom().widows(), 0);
    }

    static void p34to36() {
        UnsaidRoom x = house("stays much+times-nods;");
        due(35, "all", x.which(), 2 + 16);
        due(36, "gus parts them", x.ask(), 0);
        due(34, "seen", x.see(0, 4, true), true);
        due(35, "dark", x.which(), 2);
        due(36, "none parts one", x.ask(), NONE);
        x.mark(0, false);
        due(34, "not so", x.see(1, 4, false), true);
        due(35, "none", x.which(), 0);
        due(36, "of none", x.ask(), NONE);
        x.mark(0, true);
        due(34, "seen is on the mark", x.count(10), 1);
        due(34, "0 minutes", x.see(0, 0, true), false);
        due(34, "31 minutes", x.see(0, 31, true), false);
        due(34, "30 minutes", x.see(0, 30, false), true);
        due(34, "person 5", x.see(5, 4, true), false);
        due(34, "person -1", x.see(-1, 4, true), false);
        for (int i = 0; i < 6; i++) {
            due(34, "the same again", x.see(0, 4, true), true);
        }
        due(34, "a ninth", x.see(0, 4, true), false);
        due(34, "8", x.count(10), 8);
        UnsaidRoom y = house("stays much+times;");
        y.see(0, 4, true);
        y.show(0, 1);
        due(35, "as it is when asked: 5 by now", y.which(), 0);
        y.undo();
        due(35, "4 again", y.which(), 2);
        due(35, "of nothing", new UnsaidRoom().which(), 0);
        UnsaidRoom first = new UnsaidRoom();
        tell(first, "unsaid u holds 2;unsaid v holds 3;room a;door a u;door a v;person p guest age 1 in a;");
        first.marches();
        due(19, "room 0, too", first.may(0), 3);
        first.see(0, 3, true);
        due(35, "not room 0", first.which(), 2);
        first.mark(0, false);
        first.see(0, 2, false);
        due(35, "nor by what it's not", first.which(), 2);
        first.see(0, 2, true);
        due(35, "none", first.which(), 0);
        first.mark(0, true);
        first.see(0, 3, false);
        due(35, "so and not so", first.which(), 0);
        UnsaidRoom z = new UnsaidRoom();
        tell(z, "room a;unsaid u holds 2;unsaid v holds 3;unsaid w holds 4;person p guest age 1 in a;"
            + "person q wife age 2 in a;person r wife age 3 in a;stays (much<3)*(years=2)+(years=3)*much;");
        z.marches();
        due(36, "r parts all", z.ask(), 2);
        z.see(1, 1, true);
        due(35, "p and q are 1 in any", z.which(), 2 + 4 + 8);
        z.see(2, 2, false);
        due(35, "two", z.which(), 4 + 8);
        due(36, "r", z.ask(), 2);
        due(36, "nobody parts alike ones", house("stays 3;").ask(), NONE);
    }

    static void p37() {
        UnsaidRoom x = house();
        due(37, "half", x.chance(0, 1, 1, 5), 500000);
        due(37, "twice", x.chance(0, 1, 2, 5), 750000);
        due(37, "six by 3", x.chance(0, 1, 6, 3), 1000000 - 117649);
        due(37, "surely", x.chance(0, 1, 1, 10), 1000000);
        due(37, "never", x.chance(0, 1, 6, 0), 0);
        due(37, "no door", x.chance(0, 4, 6, 10), 0);
        due(37, "sue", x.chance(3, 1, 6, 10), 0);
        x.show(1, 1);
        due(37, "not free by then", x.chance(0, 1, 4, 5), 0);
        due(37, "free then", x.chance(0, 1, 5, 5), 500000);
        due(37, "who is inside comes out first", x.chance(1, 1, 6, 5), 750000);
        due(37, "minutes 0", x.chance(0, 1, 0, 5), NONE);
        due(37, "minutes 7", x.chance(0, 1, 7, 5), NONE);
        due(37, "odds 11", x.chance(0, 1, 1, 11), NONE);
        due(37, "odds -1", x.chance(0, 1, 1, -1), NONE);
        due(37, "person 5", x.chance(5, 1, 1, 5), NONE);
        due(37, "person -1", x.chance(-1, 1, 1, 5), NONE);
        due(37, "not unsaid", x.chance(0, 0, 1, 5), NONE);
        due(37, "room 6", x.chance(0, 6, 1, 5), NONE);
        due(37, "all is as ahead", x.count(3), 0);
    }

    static void rest(String what, int[] door, int which, int want) {
        int got;
        try {
            got = new UnsaidRoom().rests(door[0], door[1], door[2], which);
        } catch (NoSuchElementException e) {
            got = -99;
        }
        due(38, what, got, want);
    }

    static void p38() {
        rest("one goes in", new int[] {2, 5, 1}, NONE, 2);
        rest("the other one", new int[] {2, 5, 1}, 0, 1);
        rest("the first one", new int[] {2, 5, 1}, 1, 2);
        rest("no third", new int[] {2, 5, 1}, 2, -99);
        rest("all is one", new int[] {0, 0, 0}, NONE, 4);
        rest("both wait", new int[] {0, 0, 0}, 0, 0);
        rest("both go in", new int[] {0, 0, 0}, 3, 3);
        rest("nobody gets by going in", new int[] {9, 0, 9}, NONE, 3);
        rest("both wait, first", new int[] {9, 0, 9}, 0, 0);
        rest("both go in at no loss", new int[] {0, 1, 0}, 2, 3);
        rest("who waits gets more", new int[] {0, 1, 1}, NONE, 2);
        rest("9", new int[] {9, 9, 9}, NONE, 2);
        rest("lose 10", new int[] {10, 0, 0}, NONE, -99);
        rest("lose -1", new int[] {-1, 0, 0}, NONE, -99);
        rest("goes 10", new int[] {0, 10, 0}, NONE, -99);
        rest("goes -1", new int[] {0, -1, 0}, NONE, -99);
        rest("waits 10", new int[] {0, 0, 10}, NONE, -99);
        rest("waits -1", new int[] {0, 0, -1}, NONE, -99);
        rest("what -2", new int[] {0, 0, 0}, -2, -99);
        rest("what 4", new int[] {0, 0, 0}, 4, -99);
    }

    static void p39() {
        UnsaidRoom x = house();
        due(39, "seed -1", x.evenings(-1, 9, 0), NONE);
        due(39, "seed 9999", x.evenings(9999, 1, 0), 0);
        due(39, "seed 10000", x.evenings(10000, 9, 0), NONE);
        due(39, "minutes 0", x.evenings(0, 0, 0), NONE);
        due(39, "minutes 100", x.evenings(0, 100, 0), NONE);
        due(39, "what 3", x.evenings(0, 9, 3), NONE);
        due(39, "what -1", x.evenings(0, 9, -1), NONE);
        UnsaidRoom y = new UnsaidRoom();
        tell(y, "room a;unsaid u holds 1;door a u;person p guest age 9 in a;");
        y.marches();
        int[] told = byDraws(7, 99);
        due(39, "nods", y.evenings(7, 99, 0), told[0]);
        due(39, "bits", y.evenings(7, 99, 1), told[1]);
        due(39, "minutes", y.evenings(7, 99, 2), told[2]);
        y.show(0, 1);
        y.minute();
        due(39, "nods by these alone", y.evenings(7, 1, 0), byDraws(7, 1)[0]);
        due(39, "all is as ahead", y.count(3), 1);
        due(39, "nothing to undo by it", y.count(11), 2);
        UnsaidRoom z = new UnsaidRoom();
        tell(z, "room a;unsaid u holds 5;door a u;");
        z.marches();
        due(39, "nobody", z.evenings(1, 99, 2), 0);
        UnsaidRoom w = house();
        w.show(0, 1);
        due(39, "a nod by the minutes alone", w.evenings(0, 4, 0) >= 1, true);
        due(39, "who is inside at last", w.evenings(0, 1, 1) & 1, 1);
    }

    /** The draws for one guest, one room and an unsaid one that keeps him a minute, told once more by hand. */
    static int[] byDraws(long g, int minutes) {
        int nods = 0;
        boolean shown = false;
        boolean spoken = false;
        int been = 0;
        for (int i = 0; i < minutes; i++) {
            long[] drawn = new long[3];
            long[] below = {1, 2, 5};
            for (int k = 0; k < 3; k++) {
                g = (g * 1103515245L + 12345L) % 2147483648L;
                drawn[k] = g / 65536 % below[k];
            }
            if (drawn[2] == 0 && shown && !spoken) {
                spoken = true;
                been = 0;
            }
            if (drawn[2] >= 3 && drawn[1] == 1 && !spoken) {
                shown = true;
                nods++;
                been++;
            }
        }
        return new int[] {nods, 0, been};
    }

    static void p40() {
        UnsaidRoom x = house();
        due(40, "none such", x.mark(4, false), false);
        due(40, "none such", x.mark(-1, false), false);
        due(40, "none such, back", x.mark(4, true), false);
        due(40, "nothing on it", x.mark(3, true), false);
        tell(x, "minute;");
        x.evening();
        x.see(0, 4, true);
        x.show(0, 1);
        x.minute();
        due(40, "laid", x.mark(3, false), true);
        minutes(x, 3);
        x.speak(0);
        x.burn(3);
        x.see(0, 4, false);
        tell(x, "minute;minute;");
        x.evening();
        tell(x, "room");
        due(40, "gone back to", x.mark(3, true), true);
        due(40, "minute", x.count(3), 1);
        due(40, "nods", x.count(4), 0);
        due(40, "burnt", x.count(6), 0);
        due(40, "inside", x.count(7), 1);
        due(40, "spoken", x.count(8), 0);
        due(40, "evening", x.count(9), 1);
        due(40, "seen", x.count(10), 1);
        due(40, "nothing can be undone", x.count(11), 0);
        due(40, "the tape stays", x.count(12), 4);
        due(40, "more", x.person(0, 3), 3);
        minutes(x, 5);
        due(40, "again", x.mark(3, true), true);
        due(40, "minute again", x.count(3), 1);
        due(40, "been", x.been(0), 1);
        x.minute();
        due(40, "laid anew", x.mark(3, false), true);
        x.minute();
        x.mark(3, true);
        due(40, "the new one", x.count(3), 2);
        due(40, "the others are empty", x.mark(0, true) || x.mark(1, true) || x.mark(2, true), false);
        heldLines();
        due(40, "laying leaves undo", undoAfterMark(), true);
    }

    static void heldLines() {
        UnsaidRoom x = house();
        tell(x, "show gus dark;minute;walk ann hall;");
        x.evening();
        x.see(0, 4, true);
        x.mark(1, false);
        tell(x, "walk ann barn;minute;burn kit;");
        x.evening();
        tell(x, "minute;speak tom;show tom dark;");
        x.evening();
        due(40, "another evening", x.judged(0), 1);
        x.mark(1, true);
        due(40, "its lines", x.judged(0), NONE);
        due(40, "its minutes", x.judged(2), 1);
        x.mark(2, false);
        tell(x, HOUSE);
        x.marches();
        x.see(1, 7, false);
        x.mark(0, false);
        x.mark(3, false);
        x.see(2, 7, true);
        due(40, "none", x.which(), 0);
        x.mark(0, true);
        due(40, "what was seen", x.which(), 2);
        due(40, "gone with the marches", x.mark(2, true), false);
        UnsaidRoom y = house("stays much+(years=30);");
        y.mark(0, false);
        y.see(0, 4, true);
        y.mark(1, false);
        y.mark(0, true);
        y.see(1, 4, false);
        due(40, "another was seen", y.which(), 2 + 16);
        y.mark(1, true);
        due(40, "of whom, how long, and so", y.which(), 2);
    }

    static boolean undoAfterMark() {
        UnsaidRoom x = house();
        x.minute();
        x.mark(0, false);
        return x.undo();
    }

    static void p41() {
        UnsaidRoom x = house();
        due(41, "rooms", x.count(0), 6);
        due(41, "doors", x.count(1), 5);
        due(41, "persons", x.count(2), 5);
        due(41, "unsaid", x.count(5), 2 + 16);
        x.show(0, 1);
        due(41, "inside", x.count(7), 1);
        minutes(x, 4);
        due(41, "minute", x.count(3), 4);
        due(41, "nods", x.count(4), 1);
        x.speak(0);
        due(41, "spoken", x.count(8), 1);
        x.burn(3);
        due(41, "burnt", x.count(6), 8);
        tell(x, "minute;speak gus;");
        due(41, "signs", x.count(12), 17);
        x.evening();
        due(41, "lines", x.count(9), 2);
        x.see(0, 1, true);
        due(41, "seen", x.count(10), 1);
        due(41, "undo", x.count(11), 7);
        due(41, "none", x.count(12), 0);
        due(41, "13", x.count(13), NONE);
        due(41, "-1", x.count(-1), NONE);
    }

    public static void main(String[] args) {
        p1();
        p2();
        p3words();
        p3lines();
        p3laws();
        p3state();
        p4();
        p5();
        p6();
        p7();
        p8();
        p9();
        p10();
        p11();
        p12();
        p13();
        p14to18();
        p19to21();
        p22to27();
        p28();
        p29to31();
        p32to33();
        p34to36();
        p37();
        p38();
        p39();
        p40();
        p41();
        System.out.println(wrong == 0 ? "all promises hold" : wrong + " answers are not as due");
        if (wrong != 0) {
            System.exit(1);
        }
    }
}
