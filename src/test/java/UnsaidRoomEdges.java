import java.util.Arrays;
import java.util.NoSuchElementException;

/**
 * Each sentence of the document that names a boundary (too small, too large, empty, full, a wrap-around, a refused call),
 * in the document's order; what is due was found from the sentence by hand.
 */
public final class UnsaidRoomEdges {
    static final int NONE = UnsaidRoom.NONE;
    static final int OTHERS = -2;
    /** What stands for "it throws" among numbers. */
    static final int THROWS = -99;
    static final int MIN = Integer.MIN_VALUE;
    static final int MAX = Integer.MAX_VALUE;

    /** hall 0, dark 1 (unsaid), kit 2, att 3, deep 4 (unsaid), barn 5; gus 0, ann 1, tom 2, sue 3, tax 4. */
    static final String HOUSE = "room hall;unsaid dark holds 4;room kit;room att;unsaid deep holds 7;room barn;"
        + "door hall dark;door hall kit;door kit att;door att deep;door kit dark;"
        + "person gus guest age 40 in hall;person ann wife age 30 in kit;person tom child age 4 in hall;"
        + "person sue child age 3 in hall;person tax taxman age 50 in barn;";
    /** No ROOM of the house; a shift by 32 or 33 would meet one. */
    static final int[] NO_ROOMS = {-1, 6, 7, 8, 32, 33, -31, MIN, MAX};
    /** No PERSON of the house. */
    static final int[] NO_PERSONS = {-1, 5, 6, 32, 33, -32, MIN, MAX};
    /** All that can be told, to the last: a to d and h are said, e to g unsaid; p to t. */
    static final String FULL = "room a;room b;room c;room d;unsaid e holds 1;unsaid f holds 20;unsaid g holds 7;room h;"
        + "door a b;door a c;door a d;door a h;door a e;door a f;door a g;door b c;door h g;door h d;"
        + "person p guest age 0 in a;person q wife age 99 in h;person r child age 3 in a;person s child age 4 in a;"
        + "person t taxman age 50 in h;";
    static final String[] KEPT = {"room", "unsaid", "holds", "door", "person", "age", "in", "stays", "walk", "show",
        "speak", "burn", "minute", "guest", "wife", "child", "taxman", "not", "and", "or"};

    static int wrong = 0;
    static int promise = 0;
    static String sentence = "";
    static final int[] rows = new int[42];

    /** The sentence to which the next rows belong. */
    static void says(int itsPromise, String words) {
        promise = itsPromise;
        sentence = words;
    }

    static void due(String what, long got, long want) {
        rows[promise]++;
        if (got != want) {
            wrong++;
            System.out.println("promise " + promise + " (" + sentence + "), " + what + ": answered " + got + ", due is " + want);
        }
    }

    static void due(String what, boolean got, boolean want) {
        due(what, got ? 1 : 0, want ? 1 : 0);
    }

    static void tell(UnsaidRoom x, String text) {
        for (int i = 0; i < text.length(); i += 24) {
            x.feed(eight(text, i), eight(text, i + 8), eight(text, i + 16));
        }
    }

    static long eight(String text, int from) {
        long all = 0;
        for (int i = from; i < from + 8; i++) {
            all = all << 8 | (i < text.length() ? text.charAt(i) : 0);
        }
        return all;
    }

    static UnsaidRoom land(String text) {
        UnsaidRoom x = new UnsaidRoom();
        tell(x, text);
        int fault = x.marches();
        if (fault != 0) {
            due("the marches " + text, fault, 0);
        }
        return x;
    }

    static UnsaidRoom house(String more) {
        return land(HOUSE + more);
    }

    static int marches(String text) {
        UnsaidRoom x = new UnsaidRoom();
        tell(x, text);
        return x.marches();
    }

    static int readAgain(UnsaidRoom x, String text) {
        tell(x, text);
        return x.marches();
    }

    static int evening(UnsaidRoom x, String text) {
        tell(x, text);
        return x.evening();
    }

    static int fault(int kind, int place) {
        return kind + 16 * place;
    }

    /** A text with the place of its sign ^, which is taken out, as that of a FAULT. */
    static void dueFault(String text, int kind) {
        int place = text.indexOf('^');
        due(text, marches(text.substring(0, place) + text.substring(place + 1)), fault(kind, place));
    }

    static void dueLineFault(String text, int kind) {
        int place = text.indexOf('^');
        due(text, evening(house(""), text.substring(0, place) + text.substring(place + 1)), fault(kind, place));
    }

    static void dueFine(String text) {
        due(text, marches(text), 0);
    }

    /** How long the dark room would keep gus, of 40, by this law. */
    static int law(String e) {
        return house("stays " + e + ";").stay(0, 1);
    }

    static void minutes(UnsaidRoom x, int n) {
        for (int i = 0; i < n; i++) {
            x.minute();
        }
    }

    /** All that can be seen of how it is, to be compared with what it was ahead of a refused call. */
    static String all(UnsaidRoom x) {
        StringBuilder t = new StringBuilder();
        for (int k = 0; k <= 12; k++) {
            t.append(x.count(k)).append(' ');
        }
        for (int r = 0; r < x.count(0); r++) {
            for (int k = 0; k <= 4; k++) {
                t.append(x.room(r, k)).append(' ');
            }
        }
        for (int p = 0; p < x.count(2); p++) {
            for (int k = 0; k <= 5; k++) {
                t.append(x.person(p, k)).append(' ');
            }
            t.append(x.been(p)).append(' ');
        }
        for (int k = 0; k <= 2; k++) {
            t.append(x.judged(k)).append(' ');
        }
        return t.append(x.which()).toString();
    }

    static void dueSame(String what, UnsaidRoom x, String ahead) {
        due(what, all(x).equals(ahead), true);
    }

    static String times(int n, String text) {
        return text.repeat(n);
    }

    // ---------------------------------------------------------------- what it is

    static void manyCalls() {
        says(11, "An object is used for at most 512 calls after it has been made");
        UnsaidRoom x = new UnsaidRoom();
        minutes(x, 511);
        due("the 512th", x.count(3), 511);
        UnsaidRoom y = land("room a;unsaid u holds 1;door a u;person p wife age 1 in a;");
        for (int i = 0; i < 250; i++) {
            y.show(0, 1);
            y.minute();
        }
        due("nods", y.count(4), 250);
        due("times", y.person(0, 4), 250);
        due("been", y.been(0), 250);
    }

    // ---------------------------------------------------------------- the tape

    static void tape() {
        says(2, "The TAPE has at most 1,000 signs, 10 and 32 .. 126");
        for (int sign = 0; sign < 256; sign++) {
            int want = sign == 10 || sign >= 32 && sign <= 126 ? 1 : 0;
            due("the highest byte of a: " + sign, new UnsaidRoom().feed((long) sign << 56, 0, 0), want);
            due("the lowest byte of c: " + sign, new UnsaidRoom().feed(0, 0, sign), want);
        }
        says(2, "Up to 24 signs come behind the TAPE: the bytes of a, b, c, of each the highest first");
        due("none", new UnsaidRoom().feed(0, 0, 0), 0);
        due("24", new UnsaidRoom().feed(eight("abcdefgh", 0), eight("abcdefgh", 0), eight("abcdefgh", 0)), 24);
        UnsaidRoom x = new UnsaidRoom();
        x.feed(eight("unsaid a", 0), eight(" holds 1", 0), eight(";unsaid ", 0));
        due("behind what there is", x.feed(eight("b holds ", 0), eight("12;", 0), 0), 35);
        due("in order", x.marches(), 0);
        due("a", x.room(0, 1), 1);
        due("b", x.room(1, 1), 12);
        says(2, "what is beyond 1,000, are left out: how many there are");
        UnsaidRoom full = new UnsaidRoom();
        tell(full, times(993, " ") + "room a;");
        due("1,000", full.count(12), 1000);
        due("full", full.feed(-1, eight("room b;", 0), MAX), 1000);
        due("the last sign is there", full.marches(), 0);
        due("room a", full.count(0), 1);
        due("empty again", full.feed(eight("room b;", 0), 0, 0), 7);
        UnsaidRoom over = new UnsaidRoom();
        tell(over, times(994, " ") + "room a;");
        due("one beyond", over.count(12), 1000);
        due("it is left out, the end is at 1,000", over.marches(), fault(1, 1000));
        UnsaidRoom within = new UnsaidRoom();
        tell(within, times(980, "\n"));
        due("the call that goes beyond", within.feed(eight("room a;r", 0), eight("oom b;ro", 0), eight("om c;oom", 0)), 1000);
        due("its first 20", within.marches(), fault(1, 1000));
        UnsaidRoom gaps = new UnsaidRoom();
        tell(gaps, times(999, " "));
        due("others take no place", gaps.feed(0x7F00FF0180091F0BL, 0, 0), 999);
        due("the thousandth", gaps.feed(0, 0, ';'), 1000);
        says(3, "what reads it takes it: it is empty then");
        UnsaidRoom y = house("");
        due("by marches", y.count(12), 0);
        tell(y, "minute;");
        y.evening();
        due("by an evening", y.count(12), 0);
        tell(y, "minute");
        y.evening();
        due("by a fault of an evening", y.count(12), 0);
        tell(y, "room");
        y.marches();
        due("by a fault of marches", y.count(12), 0);
        says(4, "what reads it takes it: it is empty then");
        due("an empty one is an evening", y.evening(), 0);
        due("of no lines", y.count(9), 0);
        says(3, "what reads it takes it: it is empty then");
        due("an empty one is marches", y.marches(), 0);
        due("of no rooms", y.count(0), 0);
        due("blanks alone, too", marches(" \n\n "), 0);
    }

    static void tokens() {
        says(3, "WORDS (letters a .. z, 8 at most)");
        dueFine("room a;room z;");
        dueFine("room abcdefgh;room abcdefgi;room bbcdefgh;");
        dueFault("room ^abcdefghi;", 1);
        dueFault("room ^" + times(40, "z") + ";", 1);
        dueFault("^abcdefghiroom a;", 1);
        dueFault("room a;^roomroomroom b;", 1);
        dueFault("^rooma;", 1);
        dueFine("room rooms;room roo;room minutes;room ora;");
        due("all letters and none besides, none of 8 is cut", land("room zzzzzzzz;room zzzzzzz;").count(0), 2);
        says(3, "NUMBERS (1 to 4 digits; a letter may stand right behind)");
        dueFine("unsaid a holds 4;unsaid b holds 04;unsaid c holds 004;unsaid d holds 0004;");
        dueFault("unsaid a holds ^00004;", 1);
        dueFault("unsaid a holds ^4294967300;", 1);
        dueFault("unsaid a holds ^18446744073709551620;", 1);
        dueFault("stays ^10000;", 1);
        dueFault("stays 9999*^00000;", 1);
        dueFine("room a;person b wife age 9in a;");
        due("behind it a word", law("4and 5"), 1);
        due("behind it a word", law("(0or 0)+3"), 3);
        due("four digits", law("9999-9991"), 8);
        says(3, "TOKENS, each as long as can be, blanks (10, 32) between where one likes");
        dueFine("unsaid a holds4;room b;door\nb\n\na\n;person c wife age\n9in b;stays(1)+not(2);");
        dueFault("room a^1;", 1);
        dueFault("room a ^b;", 1);
        dueFault("unsaid a holds 1 ^2;", 1);
        says(3, "All else (a longer WORD or NUMBER, too, at its first sign) is none");
        for (int sign = 32; sign <= 126; sign++) {
            behindName((char) sign);
            betweenNumbers((char) sign);
        }
    }

    static void behindName(char sign) {
        boolean letter = sign >= 'a' && sign <= 'z';
        int want = letter || sign == ' ' ? 0 : sign == ';' ? fault(1, 7) : fault(1, 6);
        due("room a" + sign + ";", marches("room a" + sign + ";"), want);
    }

    static void betweenNumbers(char sign) {
        boolean fine = "+-*<=".indexOf(sign) >= 0 || sign >= '0' && sign <= '9';
        int want = fine ? 0 : sign == ' ' || sign == ';' ? fault(1, 8) : fault(1, 7);
        due("stays 1" + sign + "1;", marches("stays 1" + sign + "1;"), want);
    }

    // ---------------------------------------------------------------- marches

    static void lines() {
        says(3, "MARCHES: any number of");
        dueFine("");
        UnsaidRoom x = land(FULL);
        due("rooms", x.count(0), 8);
        due("doors", x.count(1), 10);
        due("persons", x.count(2), 5);
        due("unsaid", x.count(5), 16 + 32 + 64);
        due("the last room's doors", x.room(7, 2), 1 + 8 + 64);
        due("the last person", x.person(4, 0), 3);
        says(3, "room, unsaid: 8 ROOMS at most, together, numbered as told");
        dueFault(FULL + "^room z;", 5);
        dueFault(FULL + "^unsaid z holds 1;", 5);
        dueFault(FULL + "^room a", 5);
        dueFault(FULL + "^room", 5);
        String unsaid = "unsaid a holds 1;unsaid b holds 1;unsaid c holds 1;unsaid d holds 1;unsaid e holds 1;"
            + "unsaid f holds 1;unsaid g holds 1;unsaid h holds 1;";
        due("eight unsaid ones", land(unsaid).count(5), 255);
        dueFault(unsaid + "^unsaid i holds 1;", 5);
        dueFault(unsaid + "^room i;", 5);
        says(3, "holds 1 to 20");
        dueFault("unsaid a holds ^0;", 4);
        dueFine("unsaid a holds 1;");
        dueFine("unsaid a holds 20;");
        dueFault("unsaid a holds ^21;", 4);
        dueFault("unsaid a holds ^9999;", 4);
        dueFault("unsaid a holds ^0000;", 4);
        dueFault("unsaid a holds ^;", 1);
        dueFault("unsaid a holds ^-1;", 1);
        says(3, "door: 10 at most, numbered as told");
        dueFault(FULL + "^door b d;", 5);
        dueFault(FULL + "^door x y;", 5);
        says(3, "between two ROOMS told, not the same, not both unsaid, each two have one at most");
        dueFine("unsaid u holds 1;room a;door u a;");
        dueFine("unsaid u holds 1;room a;door a u;");
        dueFault("unsaid u holds 1;door u ^u;", 3);
        dueFault("room a;door a ^a;", 3);
        dueFault("unsaid u holds 1;unsaid v holds 1;door v ^u;", 3);
        dueFault("unsaid u holds 1;room a;door a u;door u ^a;", 3);
        dueFault("unsaid u holds 1;room a;door a u;door a ^u;", 3);
        dueFault("room a;room b;room c;door a b;door b c;door c a;door c ^b;", 3);
        says(3, "person: 5 at most, numbered as told");
        dueFault(FULL + "^person u wife age 1 in a;", 5);
        dueFault(FULL + "^person;", 5);
        says(3, "age 0 to 99");
        dueFine("room a;person b wife age 0 in a;person c wife age 99 in a;");
        dueFault("room a;person b wife age ^100 in a;", 4);
        dueFault("room a;person b wife age ^9999 in a;", 4);
        dueFault("room a;person b wife age ^-1 in a;", 1);
        says(3, "in a ROOM told that is not unsaid");
        dueFault("room a;person b wife age 1 in ^c;", 2);
        dueFault("unsaid a holds 1;person b wife age 1 in ^a;", 2);
        dueFault("room a;person b wife age 1 in a;person c wife age 1 in ^b;", 2);
        dueFault("person b wife age 1 in ^a;room a;", 2);
        says(3, "stays: once");
        dueFine("stays 1;");
        dueFault("stays 1;room a;^stays 1;", 3);
        dueFault("stays 1;^stays", 3);
    }

    static void names() {
        says(3, "A NAME is another WORD than room, unsaid, holds, door, person, age, in, stays");
        for (String word : KEPT) {
            dueFault("room ^" + word + ";", 1);
            dueFault("unsaid ^" + word + " holds 1;", 1);
            dueFault("room a;door ^" + word + " a;", 1);
            dueFault("room a;door a ^" + word + ";", 1);
            dueFault("room a;person ^" + word + " wife age 1 in a;", 1);
            dueFault("room a;person b wife age 1 in ^" + word + ";", 1);
        }
        says(4, "A NAME is another WORD than room, unsaid, holds, door, person, age, in, stays");
        for (String word : KEPT) {
            dueLineFault("walk ^" + word + " kit;", 1);
            dueLineFault("walk gus ^" + word + ";", 1);
            dueLineFault("show ^" + word + " dark;", 1);
            dueLineFault("show gus ^" + word + ";", 1);
            dueLineFault("speak ^" + word + ";", 1);
            dueLineFault("burn ^" + word + ";", 1);
        }
        says(3, "no two (ROOMS, PERSONS) are alike");
        dueFault("room a;room ^a;", 3);
        dueFault("room a;unsaid ^a holds 1;", 3);
        dueFault("unsaid a holds 1;room ^a;", 3);
        dueFault("unsaid a holds 1;unsaid ^a holds 1;", 3);
        dueFault("room a;person ^a wife age 1 in a;", 3);
        dueFault("room a;person b wife age 1 in a;room ^b;", 3);
        dueFault("room a;person b wife age 1 in a;unsaid ^b holds 1;", 3);
        dueFault("room a;person b wife age 1 in a;person ^b wife age 1 in a;", 3);
        dueFine("room much;unsaid times holds 1;person years wife age 1 in much;person nods wife age 1 in much;");
        says(3, "KIND: guest, wife, child, taxman");
        for (String word : KEPT) {
            boolean kind = Arrays.asList("guest", "wife", "child", "taxman").contains(word);
            due(word, marches("room a;person b " + word + " age 1 in a;"), kind ? 0 : fault(1, 16));
        }
        dueFault("room a;person b ^king age 1 in a;", 1);
        dueFault("room a;person b ^age 1 in a;", 1);
        dueFault("room a;person b ^1 age 1 in a;", 1);
    }

    // ---------------------------------------------------------------- laws

    static void depths() {
        says(3, "no PART lies within 5 of not and ( )");
        String[] parts = {"1", "much", "times", "years", "nods", "not", "("};
        String[] none = {";", ")", "age", "foo", "+", "<", "and", "A", "12345", ""};
        for (int nots = 0; nots <= 5; nots++) {
            String around = times(nots, "not ") + times(5 - nots, "(");
            String closed = times(5 - nots, ")");
            for (String part : parts) {
                dueFault("stays " + around + "^" + part, 5);
            }
            for (String token : none) {
                dueFault("stays " + around + "^" + token, 1);
            }
            if (nots < 5) {
                dueFine("stays " + around.substring(0, around.length() - 1) + "1" + closed.substring(1) + ";");
            }
        }
        dueFine("stays not not not not 1;");
        dueFine("stays (not(not 1)+not not 1)*((((1))))-((((1))));");
        dueFine("stays not 1+not 1+not 1+not 1+not 1+not 1+not 1;");
        dueFault("stays ((((1))))+(((((^1)))));", 5);
        dueFault("stays (1+(2+(3+(4+(^5)))));", 5);
        dueFault("stays (1+(2+(3+(4)+5)+6)+(7+(8+(9+(^1)))));", 5);
        dueFault("stays not(not(not ^1));", 5);
    }

    static void forms() {
        says(3, "TEST: SUM, or SUM < SUM, or SUM = SUM");
        dueFault("stays 1<2^<3;", 1);
        dueFault("stays 1<2^=3;", 1);
        dueFault("stays 1=2^<3;", 1);
        dueFault("stays 1=2^=3;", 1);
        dueFine("stays 1<2 and 2=3 or 4<5;");
        dueFine("stays (1<2)<(3=4);");
        says(3, "PART: a NUMBER, a fact, not PART, ( E )");
        dueFault("stays^", 1);
        dueFault("stays ^;", 1);
        dueFault("stays (^);", 1);
        dueFault("stays ^+1;", 1);
        dueFault("stays 1+^;", 1);
        dueFault("stays 1*^*1;", 1);
        dueFault("stays 1 and ^and 1;", 1);
        dueFault("stays 1 or^", 1);
        dueFault("stays not ^;", 1);
        dueFault("stays (1^;", 1);
        dueFault("stays 1^);", 1);
        dueFault("stays 1^", 1);
        dueFault("stays 1 ^not 1;", 1);
        dueFault("stays much^(1);", 1);
        dueFault("room foo;stays ^foo;", 1);
        says(3, "Of not, and, or, < and = comes 1 or 0; what is not 0 is so");
        due("not 0", law("not 0+5"), 6);
        due("not of less than 0", law("not (0-1)+5"), 5);
        due("not of 9999", law("not 9999+5"), 5);
        due("and of less than 0", law("((0-1) and (0-2))+5"), 6);
        due("or of less than 0", law("(0 or (0-2))+5"), 6);
        due("or of 0", law("(0 or 0)+5"), 5);
        due("< of the same", law("(7<7)+5"), 5);
        due("< of one less", law("(6<7)+5"), 6);
        due("< of one more", law("(8<7)+5"), 5);
        due("< of less than 0", law("(0-1<0)+5"), 6);
        due("= of one less", law("(6=7)+5"), 5);
        due("= of the same", law("(7=7)+5"), 6);
        due("from the left", law("1 or 1 and 0"), 1);
        due("from the left, told", law("(1 or 1 and 0)+5"), 5);
        due("- from the left", law("9-4-3"), 2);
        says(3, "ints wrap");
        String most = "(2147*1000*1000+4836*100+47)";
        due("the greatest and one", law("(" + most + "+1<0)+5"), 6);
        due("the greatest", law("(" + most + "<0)+5"), 5);
        due("the least less one", law("(0<0-" + most + "-2)+5"), 6);
        due("the least", law("(0<0-" + most + "-1)+5"), 5);
        due("256 four times", law("(256*256*256*256=0)+5"), 6);
        due("256 and more, once", law("256*256*256*256+8"), 8);
        due("9999 three times", law("(9999*9999*9999=" + most + "-" + most + "+(9999*9999*9999))+5"), 6);
        due("a product below 0", law("9999*9999*22"), 1);
        due("one that comes back above", law("9999*9999*9999"), 9999 * 9999 * 9999 > 0 ? 30 : 1);
        says(3, "Without stays: much");
        UnsaidRoom x = land(FULL);
        due("1", x.stay(0, 4), 1);
        due("20", x.stay(0, 5), 20);
        says(3, "times (how often one was shown in, without this time)");
        UnsaidRoom y = land("room a;unsaid u holds 1;door a u;person p wife age 1 in a;stays times+1;");
        due("first", y.show(0, 1), 1);
        y.minute();
        due("second", y.show(0, 1), 2);
    }

    // ---------------------------------------------------------------- faults

    static void faults() {
        says(3, "the end being one at the text's length");
        dueFault("room a^", 1);
        dueFault("room a   \n^", 1);
        dueFault("room ^", 1);
        dueFault("unsaid a^", 1);
        dueFault("unsaid a holds^", 1);
        dueFault("unsaid a holds 1^", 1);
        dueFault("door^", 1);
        dueFault("room a;door a^", 1);
        dueFault("room a;person b^", 1);
        dueFault("room a;person b wife^", 1);
        dueFault("room a;person b wife age^", 1);
        dueFault("room a;person b wife age 1^", 1);
        dueFault("room a;person b wife age 1 in^", 1);
        dueFault("room a;person b wife age 1 in a^", 1);
        UnsaidRoom stale = new UnsaidRoom();
        tell(stale, "stays 123456789;");
        stale.marches();
        due("digits of an earlier text are none of it", readAgain(stale, "stays 1"), fault(1, 7));
        tell(stale, "room abcdefghijk;");
        stale.marches();
        due("letters of an earlier text are none of it", readAgain(stale, "room a"), fault(1, 6));
        due("blanks of an earlier text are none of it", readAgain(stale, "room a      ;"), 0);
        due("nor is its sign", readAgain(stale, "room a     "), fault(1, 11));
        dueFault(times(993, " ") + "stays 1^", 1);
        dueFault(times(994, " ") + "room a^", 1);
        dueFault(times(999, " ") + "^(", 1);
        dueFine(times(1000, "\n"));
        dueFault(times(992, " ") + "^abcdefgh", 1);
        dueFault(times(991, " ") + "^abcdefghi", 1);
        dueFault(times(996, " ") + "^9999", 1);
        says(3, "of the first token from the left that is wrong the least");
        dueFault("room a;room ^a;room a;", 3);
        dueFault("unsaid a holds ^0;door x y;", 4);
        dueFault("door ^x 12345;", 2);
        dueFault("room ^12345 A;", 1);
        dueFault("room a;door a ^b b;", 2);
        dueFault("unsaid a holds ^99999;", 1);
        dueFault("room a;person ^a king age 100 in b;", 3);
        dueFault("person a ^king age 100 in b;", 1);
        dueFault("person a wife age ^100 in b;", 4);
        dueFault("person a wife age 99 in ^b A", 2);
        dueFault("stays 1;^stays 1;", 3);
        dueFault("^;", 1);
        dueFault("room a;^;", 1);
        dueFault("^a;", 1);
        dueFault("^1;", 1);
        dueFault("^walk a b;", 1);
        dueFault("^minute;", 1);
        says(3, "2 a NAME of no ROOM (behind door, its second, behind in, the second of walk, show, behind burn)");
        dueFault("door ^a b;", 2);
        dueFault("room a;door a ^b;", 2);
        dueFault("room a;person b wife age 1 in a;door ^b a;", 2);
        dueFault("room a;person b wife age 1 in a;door a ^b;", 2);
        says(4, "2 a NAME of no ROOM (behind door, its second, behind in, the second of walk, show, behind burn)");
        dueLineFault("walk gus ^x;", 2);
        dueLineFault("walk gus ^ann;", 2);
        dueLineFault("show gus ^x;", 2);
        dueLineFault("show gus ^gus;", 2);
        dueLineFault("burn ^x;", 2);
        dueLineFault("burn ^gus;", 2);
        says(4, "of no PERSON (behind walk, show, speak) told");
        dueLineFault("walk ^x kit;", 2);
        dueLineFault("walk ^hall kit;", 2);
        dueLineFault("show ^x dark;", 2);
        dueLineFault("show ^dark dark;", 2);
        dueLineFault("speak ^x;", 2);
        dueLineFault("speak ^hall;", 2);
    }

    static void evenings() {
        says(4, "The TAPE is read as an EVENING, likewise");
        UnsaidRoom nothing = new UnsaidRoom();
        due("of nothing, empty", nothing.evening(), 0);
        due("of nothing, minutes", evening(nothing, "minute;minute;"), 0);
        due("two lines", nothing.count(9), 2);
        due("of nothing, somebody", evening(nothing, "speak a;"), fault(2, 6));
        due("of nothing, a room", evening(nothing, "burn a;"), fault(2, 5));
        due("all stays", nothing.count(9), 2);
        dueLineFault("minute^", 1);
        dueLineFault("minute ^minute;", 1);
        dueLineFault("walk^", 1);
        dueLineFault("walk gus^", 1);
        dueLineFault("walk gus kit^", 1);
        dueLineFault("walk gus kit ^att;", 1);
        dueLineFault("show gus^;", 1);
        dueLineFault("speak^;", 1);
        dueLineFault("speak gus ^dark;", 1);
        dueLineFault("burn^;", 1);
        dueLineFault("burn kit ^kit;", 1);
        dueLineFault("^;", 1);
        dueLineFault("minute;^;", 1);
        dueLineFault("^stays 1;", 1);
        dueLineFault("^unsaid a holds 1;", 1);
        dueLineFault("walk ^12345 kit;", 1);
        for (String word : KEPT) {
            boolean line = Arrays.asList("walk", "show", "speak", "burn", "minute").contains(word);
            if (!line) {
                dueLineFault("^" + word + ";", 1);
                dueLineFault("minute;^" + word + " gus kit;", 1);
            }
        }
        dueLineFault("minute;walk gus kit;^room a;", 1);
        says(4, "40 lines at most");
        String forty = times(40, "minute;");
        UnsaidRoom x = house("");
        due("40", evening(x, forty), 0);
        due("they are 40", x.count(9), 40);
        for (String line : new String[] {"walk gus kit;", "show gus dark;", "speak gus;", "burn kit;", "minute;"}) {
            dueLineFault(forty + "^" + line, 5);
        }
        dueLineFault(forty + "^walk x y;", 5);
        dueLineFault(forty + "^minute", 5);
        dueLineFault(forty + "^rest;", 1);
        dueLineFault(forty + "^room a;", 1);
        dueLineFault(forty + "^;", 1);
        dueLineFault(times(39, "minute;") + "walk ^x kit;minute;", 2);
        says(4, "An EVENING is the EVENING");
        due("the last line can be a long one", evening(x, times(39, "minute;") + "show gus dark;"), 0);
        due("40 again", x.count(9), 40);
        due("a fault", evening(x, forty + "minute;"), fault(5, 280));
        due("all stays", x.judged(0), NONE);
        due("a shorter one", evening(x, "speak gus;"), 0);
        due("its line", x.judged(0), 0);
        due("its count", x.count(9), 1);
    }

    static UnsaidRoom busy() {
        UnsaidRoom x = house("stays much+times;");
        evening(x, "walk ann hall;speak gus;");
        x.show(0, 1);
        minutes(x, 4);
        x.speak(0);
        x.show(1, 1);
        x.burn(3);
        x.see(0, 4, true);
        x.mark(2, false);
        x.minute();
        return x;
    }

    static void anew() {
        says(3, "0, or its FAULT (all stays then)");
        UnsaidRoom x = busy();
        String ahead = all(x);
        for (String text : new String[] {"room a;room b;door a b;person p wife age 1 in a;stays 1;minute;", "room", "A",
            "unsaid u holds 0;", FULL + "room i;", "stays 9;stays 9;"}) {
            tell(x, text);
            due("a fault: " + text, x.marches() != 0, true);
        }
        dueSame("all stays", x, ahead);
        due("the law", x.stay(1, 4), 8);
        due("the names", evening(x, "walk gus kit;show ann deep;"), 0);
        due("undo", x.undo(), true);
        due("the mark", x.mark(2, true), true);
        says(3, "Without a FAULT MARCHES are the MARCHES from then on");
        tell(x, "room a;unsaid b holds 5;door a b;person p wife age 1 in a;stays 9;room");
        due("a fault at the end", x.marches() != 0, true);
        tell(x, "room a;room b;unsaid c holds 3;person p guest age 2 in b;");
        due("none of it is told already", x.marches(), 0);
        due("nor is there its law", x.stay(0, 2), 3);
        due("nor its doors", x.count(1) + x.room(0, 2) + x.room(1, 2), 0);
        due("nor its unsaid rooms", x.count(5), 4);
        due("nor what they held", x.room(1, 1), 0);
        UnsaidRoom often = house("stays 9;");
        for (int i = 0; i < 3; i++) {
            tell(often, HOUSE);
            due("again", often.marches(), 0);
            due("much, again", often.stay(0, 1), 4);
        }
        for (int i = 2; i < 7; i++) {
            tell(often, HOUSE + "stays " + times(150, "1-1+") + i + ";");
            due("a long law, again", often.marches(), 0);
            due("its stay", often.stay(0, 1), i);
        }
        says(3, "minute 0, all where told, nobody was shown in, no nods, nothing burnt, no EVENING, nothing SEEN");
        UnsaidRoom y = busy();
        tell(y, HOUSE + "stays much+times;");
        due("told again", y.marches(), 0);
        due("as of a new object", all(y).equals(all(house("stays much+times;"))), true);
        says(3, "nothing can be undone, no MARK is there");
        due("undo", y.undo(), false);
        for (int mark = 0; mark < 4; mark++) {
            due("mark " + mark, y.mark(mark, true), false);
        }
        says(3, "At first: nothing");
        UnsaidRoom z = busy();
        due("empty marches", z.marches(), 0);
        due("as of a new object", all(z).equals(all(new UnsaidRoom())), true);
        due("no names", evening(z, "speak gus;"), fault(2, 6));
        due("no undo", z.undo(), false);
    }

    /** Every call on an object of nothing. */
    static void nothing() {
        says(1, "Nothing");
        UnsaidRoom x = new UnsaidRoom();
        for (int k = 0; k <= 12; k++) {
            due("count " + k, x.count(k), 0);
        }
        due("room", x.room(0, 0), NONE);
        due("person", x.person(0, 0), OTHERS);
        due("walk", x.walk(0, 0), false);
        due("show", x.show(0, 0), NONE);
        due("speak", x.speak(0), false);
        due("burn", x.burn(0), NONE);
        due("undo", x.undo(), false);
        due("judged 0", x.judged(0), NONE);
        due("judged 1", x.judged(1), NONE);
        due("judged 2", x.judged(2), 0);
        due("host", x.host(0), NONE);
        due("frees", x.frees(0), NONE);
        due("later", x.later(0, 0), NONE);
        due("out", x.out(0), NONE);
        due("calm", x.calm(), 0);
        due("may", x.may(0), NONE);
        due("goes", x.goes(0), NONE);
        due("stay", x.stay(0, 0), NONE);
        due("reach", x.reach(0), NONE);
        due("far", x.far(0, 0), NONE);
        due("halls", x.halls(), 0);
        due("hinges", x.hinges(), 0);
        due("lines", x.lines(0), NONE);
        due("fire", x.fire(0, 0), NONE);
        due("queue", x.queue(0, NONE), OTHERS);
        due("longest", x.longest(), NONE);
        due("as", x.as(), 0);
        due("been", x.been(0), NONE);
        due("alike", x.alike(), true);
        due("widows", x.widows(), 0);
        due("see", x.see(0, 1, true), false);
        due("which", x.which(), 0);
        due("ask", x.ask(), NONE);
        due("chance", x.chance(0, 0, 1, 5), NONE);
        due("rests", rests(2, 5, 1, NONE), 2);
        due("evenings 0", x.evenings(0, 99, 0), 0);
        due("evenings 1", x.evenings(0, 99, 1), 0);
        due("evenings 2", x.evenings(9999, 1, 2), 0);
        due("mark back", x.mark(0, true), false);
        due("mark", x.mark(0, false), true);
        due("minute", x.minute(), 0);
        due("the minute", x.count(3), 1);
        due("mark back then", x.mark(0, true), true);
        due("the minute again", x.count(3), 0);
    }

    // ---------------------------------------------------------------- by hand

    static void looks() {
        says(5, "NONE: others");
        UnsaidRoom x = house("");
        for (int room : NO_ROOMS) {
            due("room " + room, x.room(room, 0), NONE);
            due("room " + room + ", who", x.room(room, 4), NONE);
        }
        for (int what : new int[] {-1, 5, MIN, MAX}) {
            due("what " + what, x.room(0, what), NONE);
        }
        says(5, "1: what it holds (0: not unsaid)");
        UnsaidRoom full = land(FULL);
        due("the least", full.room(4, 1), 1);
        due("the most", full.room(5, 1), 20);
        due("the last, said", full.room(7, 1), 0);
        says(5, "4: who is in it, INSIDE, too, as bits");
        due("nobody", full.room(1, 4), 0);
        due("the last room", full.room(7, 4), 2 + 16);
        due("nobody inside", full.room(6, 4), 0);
        full.show(1, 6);
        due("inside", full.room(6, 4), 2);
        says(6, "-2: others");
        for (int person : NO_PERSONS) {
            due("person " + person, x.person(person, 0), OTHERS);
            due("person " + person + ", minutes", x.person(person, 3), OTHERS);
        }
        for (int what : new int[] {-1, 6, MIN, MAX}) {
            due("what " + what, x.person(0, what), OTHERS);
        }
        says(6, "3: minutes more INSIDE (NONE: not INSIDE)");
        due("not inside", full.person(0, 3), NONE);
        full.show(0, 5);
        due("inside, the most that much tells", full.person(0, 3), 20);
        minutes(full, 19);
        due("one more", full.person(0, 3), 1);
        full.minute();
        due("none more", full.person(0, 3), NONE);
        due("how often", full.person(0, 4), 1);
    }

    static void walks() {
        says(7, "WALK: one who is not INSIDE, to a ROOM that is not unsaid, not burnt, by a door");
        UnsaidRoom x = house("");
        x.show(1, 1);
        x.burn(3);
        String ahead = all(x);
        due("inside, by a door", x.walk(1, 2), false);
        due("inside, where he is", x.walk(1, 1), false);
        due("unsaid, not free", x.walk(0, 1), false);
        due("burnt", x.walk(0, 2), false);
        due("no door", x.walk(4, 0), false);
        due("where he is", x.walk(0, 0), false);
        says(7, "false: others, it can't be");
        for (int room : NO_ROOMS) {
            due("room " + room, x.walk(0, room), false);
        }
        for (int person : NO_PERSONS) {
            due("person " + person, x.walk(person, 0), false);
        }
        due("room and person", x.walk(MIN, MAX), false);
        dueSame("all is as ahead", x, ahead);
        UnsaidRoom y = house("");
        due("unsaid, free", y.walk(0, 1), false);
        due("a child of 3", y.walk(3, 2), true);
        due("and back", y.walk(3, 0), true);
        due("two steps", y.count(11), 2);
        UnsaidRoom z = land(FULL);
        due("a taxman to the first room", z.walk(4, 0), true);
        due("and to the last", z.walk(4, 7), true);
    }

    static void shows() {
        says(8, "NONE: others, it can't be");
        UnsaidRoom x = house("");
        x.show(1, 1);
        String ahead = all(x);
        for (int room : NO_ROOMS) {
            due("room " + room, x.show(0, room), NONE);
        }
        for (int person : NO_PERSONS) {
            due("person " + person, x.show(person, 1), NONE);
        }
        says(8, "one who is not INSIDE into an unsaid ROOM by a door: it is FREE (nobody is INSIDE it)");
        due("not free", x.show(0, 1), NONE);
        due("inside already", x.show(1, 1), NONE);
        due("no door", x.show(0, 4), NONE);
        due("not unsaid", x.show(0, 2), NONE);
        due("where he is", x.show(0, 0), NONE);
        dueSame("all is as ahead", x, ahead);
        minutes(x, 3);
        due("a minute ahead", x.show(0, 1), NONE);
        x.minute();
        due("free", x.show(0, 1), 4);
        UnsaidRoom in = land("room a;unsaid u holds 9;unsaid v holds 9;door a u;door a v;person p wife age 1 in a;");
        in.show(0, 1);
        due("inside another one", in.show(0, 2), NONE);
        says(8, "a child is 4 or older, no taxman");
        UnsaidRoom full = land(FULL);
        due("a child of 3", full.show(2, 5), NONE);
        due("a taxman", full.show(4, 6), NONE);
        due("a child of 4", full.show(3, 5), 20);
        due("a guest of 0", full.show(0, 4), 1);
        due("a wife of 99", full.show(1, 6), 7);
        UnsaidRoom young = land("room a;unsaid u holds 1;unsaid v holds 1;door a u;door a v;"
            + "person p child age 0 in a;person q wife age 3 in a;person r guest age 3 in a;person s child age 99 in a;");
        due("a child of 0", young.show(0, 1), NONE);
        due("a wife of 3", young.show(1, 1), 1);
        due("a guest of 3", young.show(2, 2), 1);
        young.minute();
        due("a child of 99", young.show(3, 2), 1);
        says(8, "they have not SPOKEN");
        UnsaidRoom spoken = house("");
        spoken.show(0, 1);
        minutes(spoken, 4);
        due("again", spoken.show(0, 1), 4);
        minutes(spoken, 4);
        spoken.speak(0);
        due("spoken", spoken.show(0, 1), NONE);
        says(8, "for as many minutes as the E of stays tells (1 to 30), and was shown in once more");
        String[] laws = {"0", "1", "2", "29", "30", "31", "9999", "0-1", "0-9999", "9999*9999*22", "256*256*256*128"};
        int[] stays = {1, 1, 2, 29, 30, 30, 30, 1, 1, 1, 1};
        for (int i = 0; i < laws.length; i++) {
            UnsaidRoom y = house("stays " + laws[i] + ";");
            due(laws[i], y.show(0, 1), stays[i]);
            due(laws[i] + ", once", y.person(0, 4), 1);
            minutes(y, stays[i] - 1);
            due(laws[i] + ", still inside", y.count(7), 1);
            due(laws[i] + ", out", y.minute(), 1);
            due(laws[i] + ", been", y.been(0), stays[i]);
        }
    }

    static void speaks() {
        says(9, "SPEAK: one who was shown in, no wife, not INSIDE, who has not SPOKEN: he has");
        UnsaidRoom x = house("");
        String ahead = all(x);
        for (int person = 0; person < 5; person++) {
            due("never shown in: " + person, x.speak(person), false);
        }
        says(9, "false: others, it can't be");
        for (int person : NO_PERSONS) {
            due("person " + person, x.speak(person), false);
        }
        dueSame("all is as ahead", x, ahead);
        x.show(1, 1);
        minutes(x, 4);
        due("a wife", x.speak(1), false);
        x.show(2, 1);
        due("inside", x.speak(2), false);
        minutes(x, 3);
        due("inside at the last minute", x.speak(2), false);
        x.minute();
        due("a child", x.speak(2), true);
        due("again", x.speak(2), false);
        due("one has", x.count(8), 4);
        says(9, "he was never shown in then, nor any minute INSIDE");
        due("times", x.person(2, 4), 0);
        due("been", x.been(2), 0);
        due("ann has been", x.been(1), 4);
        due("nods", x.count(4), 2);
        says(9, "else he stays INSIDE for good");
        UnsaidRoom y = stuck();
        minutes(y, 2);
        due("inside for good", y.speak(0), false);
    }

    static void burns() {
        says(10, "BURN from a ROOM, not unsaid, not burnt, in which nobody is");
        UnsaidRoom x = house("");
        String ahead = all(x);
        due("unsaid", x.burn(1), NONE);
        due("unsaid", x.burn(4), NONE);
        due("three are in it", x.burn(0), NONE);
        due("one is in it", x.burn(2), NONE);
        due("a taxman is in it", x.burn(5), NONE);
        says(10, "NONE: others, it can't be");
        for (int room : NO_ROOMS) {
            due("room " + room, x.burn(room), NONE);
        }
        dueSame("all is as ahead", x, ahead);
        due("nobody", x.burn(3), 1);
        due("burnt", x.burn(3), NONE);
        due("one step", x.count(11), 1);
        says(10, "on and on each ROOM, not unsaid, not burnt, to which there is a door from one that burns so");
        UnsaidRoom row = land("room a;room b;room c;room d;room e;room f;room g;room h;"
            + "door a b;door b c;door c d;door d e;door e f;door f g;door g h;");
        due("all of eight", row.burn(7), 8);
        due("bits", row.count(6), 255);
        UnsaidRoom lone = land("room a;");
        due("one", lone.burn(0), 1);
        UnsaidRoom past = land("room a;room b;room c;room d;room e;door a b;door b c;door a d;door c e;"
            + "person p wife age 1 in a;person q wife age 1 in c;");
        due("b alone", past.burn(1), 1);
        past.walk(0, 3);
        past.walk(1, 4);
        due("not through a burnt one", past.burn(0), 1);
        due("a and b", past.count(6), 3);
        says(10, "in which nobody is (unsaid ones are found standing)");
        UnsaidRoom y = land("room a;unsaid u holds 5;room b;room c;door a u;door u b;door b c;person p wife age 1 in b;");
        due("not through an unsaid one", y.burn(0), 1);
        y.show(0, 1);
        due("who is inside keeps no room", y.burn(3), 2);
        due("the unsaid one stands", y.count(6), 1 + 4 + 8);
        due("all but it are burnt", y.halls(), 0);
    }

    /** p is inside u, 2 minutes, and its only door is to a room that is burnt; q is elsewhere. */
    static UnsaidRoom stuck() {
        UnsaidRoom x = land("room a;unsaid u holds 2;room b;door a u;door a b;person p guest age 9 in a;person q wife age 9 in b;");
        x.show(0, 1);
        x.burn(0);
        return x;
    }

    static void minutesGoBy() {
        says(11, "who is for 0 comes out: to the ROOM from which he was shown in, if it is not burnt");
        UnsaidRoom x = land("room a;room b;unsaid u holds 1;door a u;door b u;person p wife age 1 in b;");
        x.show(0, 2);
        due("a minute", x.minute(), 1);
        due("where he came from, not the first", x.person(0, 2), 1);
        due("nobody", x.minute(), 0);
        x.show(0, 2);
        x.burn(0);
        x.minute();
        due("another is burnt", x.person(0, 2), 1);
        says(11, "else to the first ROOM by a door that is not burnt");
        UnsaidRoom y = land("room a;room b;room c;unsaid u holds 1;room d;door c u;door d u;door u b;door u a;person p wife age 1 in c;");
        y.show(0, 3);
        y.burn(2);
        y.burn(0);
        due("comes out", y.minute(), 1);
        due("the first is burnt, the second", y.person(0, 2), 1);
        due("a nod", y.count(4), 1);
        UnsaidRoom last = land("room a;room b;room c;unsaid u holds 1;room d;door c u;door u b;door u d;person p wife age 1 in c;");
        last.show(0, 3);
        last.burn(2);
        last.burn(1);
        last.minute();
        due("the last, a has no door", last.person(0, 2), 4);
        UnsaidRoom fed = land("room a;room b;unsaid u holds 1;door b u;door u a;person p wife age 1 in b;person q wife age 1 in a;");
        fed.show(0, 2);
        fed.burn(1);
        fed.minute();
        due("somebody is there", fed.room(0, 4), 3);
        says(11, "else he stays INSIDE for good (0 minutes more, been INSIDE no longer)");
        UnsaidRoom z = stuck();
        due("first", z.minute(), 0);
        due("one more", z.person(0, 3), 1);
        due("he does not come out", z.minute(), 0);
        due("0 more", z.person(0, 3), 0);
        due("been", z.been(0), 2);
        due("no nod", z.count(4), 0);
        due("later", z.minute(), 0);
        due("0 more", z.person(0, 3), 0);
        due("been no longer", z.been(0), 2);
        due("inside", z.count(7), 1);
        due("the minute goes on", z.count(3), 3);
        due("the room", z.person(0, 2), 1);
        due("once", z.person(0, 4), 1);
        z.undo();
        z.undo();
        due("undone: one more", z.person(0, 3), 1);
        z.undo();
        z.undo();
        minutes(z, 1);
        due("without the fire he comes out", z.minute(), 1);
        says(11, "who comes out nods: one nod more");
        UnsaidRoom five = fiveInside();
        due("five at once", five.minute(), 31);
        due("five nods", five.count(4), 5);
    }

    /** Five persons, each inside one of five unsaid rooms for a minute. */
    static UnsaidRoom fiveInside() {
        UnsaidRoom x = land("room a;unsaid b holds 1;unsaid c holds 1;unsaid d holds 1;unsaid e holds 1;unsaid f holds 1;"
            + "door a b;door a c;door a d;door a e;door a f;person p wife age 1 in a;person q wife age 1 in a;"
            + "person r wife age 1 in a;person s wife age 1 in a;person t guest age 1 in a;");
        for (int i = 0; i < 5; i++) {
            x.show(i, i + 1);
        }
        return x;
    }

    static void undoes() {
        says(12, "UNDO: all of these, the last 16, one by one");
        for (int done : new int[] {0, 1, 15, 16, 17, 31, 32, 33, 48, 100}) {
            UnsaidRoom x = new UnsaidRoom();
            minutes(x, done);
            int can = Math.min(done, 16);
            due(done + " can be", x.count(11), can);
            for (int i = 1; i <= can; i++) {
                due(done + ", " + i, x.undo(), true);
                due(done + ", minute behind " + i, x.count(3), done - i);
                due(done + ", left behind " + i, x.count(11), can - i);
            }
            says(12, "false: nothing can be");
            due(done + ", no more", x.undo(), false);
            due(done + ", minute", x.count(3), done - can);
        }
        says(12, "UNDO: all of these, the last 16, one by one");
        UnsaidRoom w = new UnsaidRoom();
        minutes(w, 20);
        for (int i = 0; i < 10; i++) {
            w.undo();
        }
        minutes(w, 3);
        due("undone and done", w.count(11), 9);
        for (int i = 0; i < 9; i++) {
            w.undo();
        }
        due("back to the same", w.count(3), 4);
        UnsaidRoom x = house("");
        String[] ahead = new String[6];
        ahead[0] = all(x);
        x.walk(2, 2);
        ahead[1] = all(x);
        x.show(0, 1);
        ahead[2] = all(x);
        minutes(x, 4);
        ahead[3] = all(x);
        x.speak(0);
        ahead[4] = all(x);
        x.burn(3);
        due("burn", x.undo() && all(x).equals(ahead[4]), true);
        due("speak", x.undo() && all(x).equals(ahead[3]), true);
        for (int i = 0; i < 4; i++) {
            x.undo();
        }
        due("minutes", all(x).equals(ahead[2]), true);
        due("show", x.undo() && all(x).equals(ahead[1]), true);
        due("walk", x.undo() && all(x).equals(ahead[0]), true);
        says(12, "false: nothing can be");
        due("no more", x.undo(), false);
        refusedLeaveNothing();
    }

    static void refusedLeaveNothing() {
        says(12, "false: nothing can be");
        UnsaidRoom x = house("");
        x.walk(0, 1);
        x.show(3, 1);
        x.speak(0);
        x.burn(0);
        x.see(0, 4, true);
        x.mark(0, false);
        evening(x, "minute;");
        x.judged(0);
        x.evenings(1, 9, 0);
        x.chance(0, 1, 1, 5);
        x.queue(1, NONE);
        x.later(0, 60);
        due("refused and asked", x.count(11), 0);
        due("none of it", x.undo(), false);
        due("seen", x.count(10), 1);
        due("the evening", x.count(9), 1);
    }

    // ---------------------------------------------------------------- judged, and what goes by

    static void judges() {
        says(13, "JUDGED, what 0, 1: lines (NONE: none), 2: minutes; -2: others");
        UnsaidRoom x = house("stays 30;");
        for (int what : new int[] {-1, 3, OTHERS, MIN, MAX}) {
            due("what " + what, x.judged(what), OTHERS);
        }
        due("no lines", x.judged(0), NONE);
        due("no nod", x.judged(1), NONE);
        due("no minutes", x.judged(2), 0);
        says(13, "the first line (from 0) that can't be");
        evening(x, "walk gus barn;walk gus att;");
        due("the first", x.judged(0), 0);
        evening(x, times(39, "minute;") + "speak gus;");
        due("the last", x.judged(0), 39);
        due("no nod of 39 minutes", x.judged(1), NONE);
        evening(x, "burn hall;");
        due("burn", x.judged(0), 0);
        evening(x, "burn dark;");
        due("burn an unsaid one", x.judged(0), 0);
        evening(x, "show sue dark;");
        due("a child of 3", x.judged(0), 0);
        says(13, "a line that can't be is left out; a minute always can");
        evening(x, times(40, "minute;"));
        due("minutes", x.judged(0), NONE);
        evening(x, "show gus dark;show ann dark;minute;walk ann hall;walk ann kit;");
        due("the second", x.judged(0), 1);
        due("ann was left out", x.judged(2), 1);
        says(13, "the first one behind which there was a nod");
        evening(x, times(9, "minute;") + "show gus dark;" + times(30, "minute;"));
        due("the last", x.judged(1), 39);
        due("30 minutes", x.judged(2), 30);
        evening(x, times(10, "minute;") + "show gus dark;" + times(29, "minute;"));
        due("a minute too late", x.judged(1), NONE);
        due("29 minutes", x.judged(2), 29);
        UnsaidRoom one = house("stays 1;");
        evening(one, "show gus dark;minute;minute;show ann dark;minute;");
        due("the first of two", one.judged(1), 1);
        says(13, "how many minutes all have been INSIDE at last");
        due("both", one.judged(2), 2);
        evening(one, "show gus dark;minute;speak gus;");
        due("a nod all the same", one.judged(1), 1);
        due("spoken", one.judged(2), 0);
        says(13, "the EVENING from the beginning");
        one.show(0, 1);
        minutes(one, 2);
        one.speak(0);
        one.burn(3);
        String ahead = all(one);
        due("not from now", one.judged(1), 1);
        dueSame("all is as ahead", one, ahead);
    }

    static void hosts() {
        says(14, "HOST; NONE: others, not unsaid, nobody");
        UnsaidRoom x = house("");
        for (int room : NO_ROOMS) {
            due("room " + room, x.host(room), NONE);
        }
        due("not unsaid, somebody", x.host(0), NONE);
        due("nobody", x.host(1), NONE);
        x.show(0, 1);
        due("gus", x.host(1), 0);
        due("nobody in the other", x.host(4), NONE);
        minutes(x, 3);
        due("still", x.host(1), 0);
        x.minute();
        due("no more", x.host(1), NONE);
        due("the last person", fiveInside().host(5), 4);
        says(15, "FREES: behind how many MINUTES (0 to 60) it is FREE");
        UnsaidRoom y = house("stays 30;");
        due("free", y.frees(1), 0);
        y.show(0, 1);
        due("30", y.frees(1), 30);
        minutes(y, 29);
        due("1", y.frees(1), 1);
        due("the other", y.frees(4), 0);
        y.minute();
        due("0", y.frees(1), 0);
        says(15, "NONE: others, not unsaid, not by 60");
        for (int room : NO_ROOMS) {
            due("room " + room, y.frees(room), NONE);
        }
        due("not unsaid", y.frees(0), NONE);
        UnsaidRoom z = stuck();
        due("never", z.frees(1), NONE);
        minutes(z, 2);
        due("never, for good", z.frees(1), NONE);
    }

    static void laters() {
        says(16, "LATER: in which ROOM a PERSON is (INSIDE, too) behind so many (0 to 60)");
        UnsaidRoom x = house("stays 30;");
        x.show(0, 1);
        String ahead = all(x);
        due("0", x.later(0, 0), 1);
        due("29", x.later(0, 29), 1);
        due("30", x.later(0, 30), 0);
        due("60", x.later(0, 60), 0);
        due("who is not inside", x.later(4, 60), 5);
        says(16, "LATER; NONE: others");
        for (int minutes : new int[] {-1, 61, MIN, MAX}) {
            due("minutes " + minutes, x.later(0, minutes), NONE);
        }
        for (int person : NO_PERSONS) {
            due("person " + person, x.later(person, 0), NONE);
        }
        UnsaidRoom y = stuck();
        due("for good", y.later(0, 60), 1);
        says(17, "OUT: behind how many (1 to 60) one who is INSIDE has come out");
        due("30", x.out(0), 30);
        due("not inside", x.out(1), NONE);
        due("not by 60", y.out(0), NONE);
        says(17, "NONE: others, not INSIDE, not by 60");
        for (int person : NO_PERSONS) {
            due("person " + person, x.out(person), NONE);
        }
        says(18, "CALM: behind how many (0 to 60) nobody is INSIDE");
        due("30", x.calm(), 30);
        dueSame("nothing is done by asking", x, ahead);
        minutes(x, 29);
        due("1", x.calm(), 1);
        due("out in 1", x.out(0), 1);
        x.minute();
        due("0", x.calm(), 0);
        due("out already", x.out(0), NONE);
        due("not by 60", y.calm(), NONE);
        minutes(y, 2);
        due("not by 60, for good", y.calm(), NONE);
        due("nor out", y.out(0), NONE);
        UnsaidRoom two = land("room a;unsaid u holds 20;unsaid v holds 3;door a u;door a v;person p wife age 1 in a;person q wife age 1 in a;");
        two.show(0, 1);
        two.show(1, 2);
        due("the last of two", two.calm(), 20);
        due("nobody there", new UnsaidRoom().calm(), 0);
    }

    static void mays() {
        says(19, "MAY, as bits; NONE: others");
        UnsaidRoom x = land(FULL);
        due("all three", x.may(0), 16 + 32 + 64);
        due("the wife", x.may(1), 64);
        due("a child of 3", x.may(2), 0);
        due("a child of 4", x.may(3), 16 + 32 + 64);
        due("a taxman", x.may(4), 0);
        for (int person : NO_PERSONS) {
            due("person " + person, x.may(person), NONE);
        }
        x.show(0, 4);
        due("inside", x.may(0), 0);
        due("one is not free", x.may(3), 32 + 64);
        x.minute();
        x.speak(0);
        due("spoken", x.may(0), 0);
        says(20, "GOES, as bits; NONE: others");
        for (int person : NO_PERSONS) {
            due("person " + person, x.goes(person), NONE);
        }
        due("spoken may walk", x.goes(0), 2 + 4 + 8 + 128);
        due("a taxman may", x.goes(4), 1 + 8);
        x.burn(3);
        due("burnt", x.goes(4), 1);
        x.show(1, 6);
        due("inside", x.goes(1), 0);
        says(21, "STAY of a PERSON and an unsaid ROOM: the E of stays for it now (1 to 30), may they or not");
        String[] laws = {"0", "1", "30", "31", "0-1", "9999", "9999*9999*22"};
        int[] stays = {1, 1, 30, 30, 1, 30, 1};
        for (int i = 0; i < laws.length; i++) {
            due(laws[i], law(laws[i]), stays[i]);
        }
        due("a taxman", x.stay(4, 5), 20);
        due("inside", x.stay(1, 6), 7);
        due("a child of 3", x.stay(2, 4), 1);
        says(21, "STAY; NONE: others, not unsaid");
        for (int room : new int[] {0, 3, 7, 8, -1, 32, 36, MIN, MAX}) {
            due("room " + room, x.stay(0, room), NONE);
        }
        for (int person : NO_PERSONS) {
            due("person " + person, x.stay(person, 4), NONE);
        }
    }

    // ---------------------------------------------------------------- where one can go

    static UnsaidRoom row() {
        return land("room a;room b;room c;room d;room e;room f;room g;room h;"
            + "door a b;door b c;door c d;door d e;door e f;door f g;door g h;person p wife age 1 in a;");
    }

    static void reaches() {
        says(22, "REACH, as bits; NONE: others, unsaid, burnt");
        UnsaidRoom x = house("");
        for (int room : NO_ROOMS) {
            due("room " + room, x.reach(room), NONE);
        }
        due("unsaid", x.reach(1), NONE);
        due("itself, too", x.reach(5), 32);
        x.burn(3);
        due("burnt", x.reach(3), NONE);
        due("not over a burnt one", x.reach(0), 1 + 4);
        due("not over an unsaid one", land("room a;unsaid u holds 1;room b;door a u;door u b;").reach(0), 1);
        due("all eight", row().reach(7), 255);
        due("one", land("room a;").reach(0), 1);
        says(23, "FAR (0: the same); NONE: others, unsaid, burnt, never");
        for (int room : NO_ROOMS) {
            due("from " + room, x.far(room, 0), NONE);
            due("to " + room, x.far(0, room), NONE);
            due("both " + room, x.far(room, room), NONE);
        }
        due("the same", x.far(0, 0), 0);
        due("the same, alone", x.far(5, 5), 0);
        due("never", x.far(0, 5), NONE);
        due("from unsaid", x.far(1, 0), NONE);
        due("to unsaid", x.far(0, 1), NONE);
        due("the same unsaid one", x.far(1, 1), NONE);
        due("from burnt", x.far(3, 2), NONE);
        due("to burnt", x.far(2, 3), NONE);
        due("the same burnt one", x.far(3, 3), NONE);
        due("the farthest", row().far(0, 7), 7);
        due("and back", row().far(7, 0), 7);
        UnsaidRoom cut = house("");
        cut.show(1, 1);
        cut.burn(2);
        due("never any more", cut.far(0, 3), NONE);
    }

    static void hallsAndHinges() {
        says(24, "HALLS, how many");
        due("nothing", new UnsaidRoom().halls(), 0);
        due("unsaid alone", land("unsaid u holds 1;unsaid v holds 1;").halls(), 0);
        due("one", row().halls(), 1);
        due("eight", land("room a;room b;room c;room d;room e;room f;room g;room h;").halls(), 8);
        due("not by an unsaid one", land("room a;unsaid u holds 1;room b;door a u;door u b;").halls(), 2);
        UnsaidRoom x = row();
        due("all but one burn", x.burn(7), 7);
        due("one is left", x.halls(), 1);
        UnsaidRoom y = house("");
        y.show(1, 1);
        y.burn(2);
        due("hall and barn are left", y.halls(), 2);
        due("one alone, and two", land("room a;room b;room c;door b c;").halls(), 2);
        due("an unsaid one, and the last two", land("unsaid u holds 1;room a;room b;door a b;").halls(), 1);
        says(25, "HINGES, as bits");
        due("nothing", new UnsaidRoom().hinges(), 0);
        due("one room", land("room a;").hinges(), 0);
        due("two", land("room a;room b;door a b;").hinges(), 0);
        due("three", land("room a;room b;room c;door a b;door b c;").hinges(), 2);
        due("eight", row().hinges(), 126);
        due("three round", land("room a;room b;room c;door a b;door b c;door c a;").hinges(), 0);
        due("the last", land("room b;room c;room d;room e;room f;room g;room h;room a;door a b;door a c;").hinges(), 128);
        due("others that never hung together", land("room a;room b;room c;door a b;").hinges(), 0);
        due("an unsaid one is none", land("room a;unsaid u holds 1;room b;door a u;door u b;").hinges(), 0);
        due("unsaid ones don't hang by it", land("room a;unsaid u holds 1;unsaid v holds 1;door a u;door a v;").hinges(), 0);
        due("an unsaid way round is none", land("room a;room b;room c;unsaid u holds 1;door a b;door b c;door a u;door u c;").hinges(), 2);
        due("burnt ones are none", x.hinges(), 0);
        says(26, "LINES, how many; NONE: others, unsaid, burnt");
        UnsaidRoom z = house("");
        for (int room : NO_ROOMS) {
            due("room " + room, z.lines(room), NONE);
        }
        due("unsaid", z.lines(1), NONE);
        due("alone", z.lines(5), 1);
        due("all but the barn, the dark one once", z.lines(0), 5);
        z.burn(3);
        due("burnt", z.lines(3), NONE);
        due("its unsaid one is not there", z.lines(0), 3);
        due("eight", land(FULL).lines(7), 8);
        due("eight in a row", row().lines(0), 8);
    }

    static void fires() {
        says(27, "FIRE, what 0: how many burn, 1: how many stand; NONE: others, it can't be");
        UnsaidRoom x = house("");
        String ahead = all(x);
        for (int room : NO_ROOMS) {
            due("room " + room, x.fire(room, 0), NONE);
            due("room " + room + ", 1", x.fire(room, 1), NONE);
        }
        for (int what : new int[] {-1, 2, MIN, MAX}) {
            due("what " + what, x.fire(3, what), NONE);
        }
        due("unsaid", x.fire(1, 0), NONE);
        due("unsaid, 1", x.fire(1, 1), NONE);
        due("somebody", x.fire(0, 0), NONE);
        due("somebody, 1", x.fire(0, 1), NONE);
        due("one", x.fire(3, 0), 1);
        due("one stands", x.fire(3, 1), 1);
        dueSame("all is as ahead", x, ahead);
        x.burn(3);
        due("burnt", x.fire(3, 0), NONE);
        due("burnt, 1", x.fire(3, 1), NONE);
        UnsaidRoom y = land("room a;room b;door a b;");
        due("none stands", y.fire(0, 1), 0);
        due("two burn", y.fire(1, 0), 2);
        UnsaidRoom z = land("room a;unsaid b holds 1;unsaid c holds 1;unsaid d holds 1;room e;"
            + "door a b;door a c;door a d;door e d;door e a;");
        due("each once", z.fire(4, 1), 3);
        due("two burn", z.fire(4, 0), 2);
    }

    // ---------------------------------------------------------------- queues and how long

    static void queues() {
        says(28, "-2: others, not unsaid, none, no i-th one");
        UnsaidRoom x = house("");
        for (int room : NO_ROOMS) {
            due("room " + room, x.queue(room, NONE), OTHERS);
            due("room " + room + ", first", x.queue(room, 0), OTHERS);
        }
        due("not unsaid", x.queue(0, NONE), OTHERS);
        due("not unsaid, first", x.queue(0, 0), OTHERS);
        for (int what : new int[] {3, 4, 5, -2, MIN, MAX}) {
            due("what " + what, x.queue(1, what), OTHERS);
        }
        due("the last", x.queue(1, 2), 2);
        says(28, "of equal ones the first row");
        UnsaidRoom five = land("room a;unsaid u holds 1;person p wife age 1 in a;person q wife age 1 in a;"
            + "person r wife age 1 in a;person s child age 4 in a;person t guest age 0 in a;stays 30;");
        due("five of 30, wherever they are", five.queue(1, NONE), 30 * (1 + 2 + 3 + 4 + 5));
        for (int i = 0; i < 5; i++) {
            due("the row", five.queue(1, i), i);
        }
        due("no sixth", five.queue(1, 5), OTHERS);
        says(28, "how much (0: nobody); which; none, of nobody, too, if it is never FREE by 60");
        UnsaidRoom nobody = land("room a;unsaid u holds 2;door a u;person p taxman age 9 in a;person q child age 3 in a;");
        due("nobody", nobody.queue(1, NONE), 0);
        due("no first", nobody.queue(1, 0), OTHERS);
        due("no people", land("unsaid u holds 1;").queue(0, NONE), 0);
        UnsaidRoom alone = land("room a;unsaid u holds 9;door a u;person p wife age 9 in a;");
        alone.show(0, 1);
        due("nobody else, not free yet", alone.queue(1, NONE), 0);
        alone.burn(0);
        due("nobody else, never free", alone.queue(1, NONE), OTHERS);
        due("nobody else, never free, first", alone.queue(1, 0), OTHERS);
        UnsaidRoom y = stuck();
        due("somebody, never free", y.queue(1, NONE), OTHERS);
        due("somebody, never free, first", y.queue(1, 0), OTHERS);
        says(28, "all who are not INSIDE anywhere, have not SPOKEN, no taxmen, no children under 4");
        UnsaidRoom z = house("");
        z.show(0, 1);
        due("behind him: 4 + 4, and 4", z.queue(1, NONE), 8 + 12);
        due("the other room: who is not inside", z.queue(4, NONE), 7 + 14);
        due("ann", z.queue(4, 0), 1);
        minutes(z, 4);
        z.speak(0);
        due("spoken", z.queue(4, NONE), 7 + 14);
        says(28, "the nods being those now and one more for each who came out of this ROOM by then");
        UnsaidRoom n = land("room a;unsaid u holds 1;unsaid v holds 1;door a u;door a v;person p wife age 1 in a;"
            + "person q wife age 2 in a;person r wife age 3 in a;stays nods+1;");
        due("1, 3, 6", n.queue(1, NONE), 10);
        n.show(2, 1);
        due("behind r: 1 + 2, 1 + 2 + 3", n.queue(1, NONE), 3 + 6);
        due("beside r: 1, 1 + 2", n.queue(2, NONE), 1 + 3);
        n.minute();
        due("a nod is there: 2, 5, 9", n.queue(2, NONE), 16);
    }

    static void longests() {
        says(29, "LONGEST: who has been INSIDE the most minutes; of equal ones the first (if any minute)");
        UnsaidRoom x = fiveInside();
        due("no minute", x.longest(), NONE);
        says(30, "pairs of PERSONS who have been INSIDE as many minutes as one another, one at least");
        due("no minute", x.as(), 0);
        says(31, "BEEN; NONE: others");
        due("no minute", x.been(4), 0);
        x.minute();
        due("one minute", x.been(4), 1);
        says(29, "LONGEST: who has been INSIDE the most minutes; of equal ones the first (if any minute)");
        due("all five, the first", x.longest(), 0);
        says(30, "pairs of PERSONS who have been INSIDE as many minutes as one another, one at least");
        due("ten pairs", x.as(), 10);
        x.show(4, 5);
        x.minute();
        due("six pairs", x.as(), 6);
        says(29, "LONGEST: who has been INSIDE the most minutes; of equal ones the first (if any minute)");
        due("the last by one minute", x.longest(), 4);
        x.speak(4);
        due("spoken", x.longest(), 0);
        says(30, "pairs of PERSONS who have been INSIDE as many minutes as one another, one at least");
        due("spoken", x.as(), 6);
        says(31, "BEEN; NONE: others");
        due("spoken", x.been(4), 0);
        for (int person : NO_PERSONS) {
            due("person " + person, x.been(person), NONE);
        }
        says(29, "LONGEST; NONE: none");
        UnsaidRoom y = house("stays 1;");
        y.show(0, 1);
        y.minute();
        y.speak(0);
        due("he alone, and has spoken", y.longest(), NONE);
    }

    static void alikes() {
        says(32, "ALIKE (true: no unsaid ROOMS, nobody)");
        due("nothing", new UnsaidRoom().alike(), true);
        due("no unsaid ones", row().alike(), true);
        due("nobody", land("unsaid u holds 1;unsaid v holds 2;").alike(), true);
        due("one unsaid", land("unsaid u holds 1;room a;person p wife age 1 in a;").alike(), true);
        due("two, one more", land("unsaid u holds 1;unsaid v holds 2;room a;person p wife age 1 in a;").alike(), false);
        due("cut above", land("unsaid u holds 1;unsaid v holds 2;room a;person p wife age 1 in a;stays much+29;").alike(), true);
        due("not cut yet", land("unsaid u holds 1;unsaid v holds 2;room a;person p wife age 1 in a;stays much+28;").alike(), false);
        due("cut below", land("unsaid u holds 1;unsaid v holds 2;room a;person p wife age 1 in a;stays much-1;").alike(), true);
        due("not cut below", land("unsaid u holds 1;unsaid v holds 3;room a;person p wife age 1 in a;stays much-1;").alike(), false);
        due("a taxman counts", land("unsaid u holds 1;unsaid v holds 2;room a;person p taxman age 1 in a;").alike(), false);
        due("persons may differ", house("stays years;").alike(), true);
        says(33, "PERSONS who could neither WALK anywhere nor be SHOWN in, not INSIDE (bits)");
        due("nothing", new UnsaidRoom().widows(), 0);
        UnsaidRoom shut = land("room a;person p wife age 1 in a;person q wife age 1 in a;person r wife age 1 in a;"
            + "person s wife age 1 in a;person t wife age 1 in a;");
        due("all five", shut.widows(), 31);
        UnsaidRoom x = land("room a;unsaid u holds 1;door a u;person p guest age 1 in a;person q child age 3 in a;person r taxman age 9 in a;");
        due("who may be shown in is none", x.widows(), 2 + 4);
        x.show(0, 1);
        due("who is inside is none", x.widows(), 2 + 4);
        x.minute();
        x.speak(0);
        due("who has spoken", x.widows(), 7);
        UnsaidRoom y = stuck();
        minutes(y, 5);
        due("inside for good is none, q is one", y.widows(), 2);
    }

    static void sees() {
        says(34, "so many minutes (1 to 30)");
        UnsaidRoom x = house("");
        for (int minutes : new int[] {0, -1, 31, MIN, MAX}) {
            due("minutes " + minutes, x.see(0, minutes, true), false);
            due("minutes " + minutes + ", not", x.see(0, minutes, false), false);
        }
        says(34, "SEEN: true; false: others, 8 there are");
        for (int person : NO_PERSONS) {
            due("person " + person, x.see(person, 4, true), false);
        }
        due("none of these", x.count(10), 0);
        due("1", x.see(0, 1, false), true);
        due("30", x.see(4, 30, false), true);
        for (int i = 3; i <= 8; i++) {
            due("another", x.see(0, 4, true), true);
            due("so many", x.count(10), i);
        }
        due("a ninth", x.see(0, 7, true), false);
        due("a ninth, not", x.see(1, 4, false), false);
        due("8", x.count(10), 8);
        says(35, "WHICH: ROOMS by which all SEEN is so (bits)");
        due("the ninth is not there", x.which(), 2);
        due("nothing seen: all unsaid", house("").which(), 2 + 16);
        due("nothing seen, nobody", land("unsaid u holds 1;").which(), 1);
        due("no unsaid ones", row().which(), 0);
        UnsaidRoom last = house("");
        for (int i = 0; i < 7; i++) {
            last.see(0, 9, false);
        }
        last.see(0, 7, true);
        due("the eighth counts", last.which(), 16);
        UnsaidRoom cut = house("stays much*9;");
        cut.see(0, 30, true);
        due("30 at most", cut.which(), 2 + 16);
        UnsaidRoom low = house("stays much-9;");
        low.see(0, 1, true);
        due("1 at least", low.which(), 2 + 16);
        low.see(0, 1, false);
        due("so and not so", low.which(), 0);
        String first = "unsaid u holds 2;unsaid v holds 3;room a;person p wife age 1 in a;";
        UnsaidRoom zero = land(first);
        zero.see(0, 2, true);
        due("room 0", zero.which(), 1);
        UnsaidRoom notZero = land(first);
        notZero.see(0, 2, false);
        due("not room 0", notZero.which(), 2);
        UnsaidRoom anew = land(first);
        anew.see(0, 2, true);
        anew.see(0, 2, true);
        tell(anew, first);
        anew.marches();
        due("nothing is seen by new marches", anew.which(), 3);
        anew.see(0, 9, false);
        anew.see(0, 2, false);
        due("what was so is not by then", anew.which(), 2);
        says(36, "ASK; NONE: none parts them");
        due("nobody", land("unsaid u holds 1;unsaid v holds 2;").ask(), NONE);
        due("one room", land("unsaid u holds 1;room a;person p wife age 1 in a;").ask(), NONE);
        due("none left", low.ask(), NONE);
        due("alike", house("stays 5;").ask(), NONE);
        due("cut alike", cut.ask(), NONE);
        due("of equal ones the first", house("").ask(), 0);
        due("the last alone", house("stays much*(years=50);").ask(), 4);
        UnsaidRoom three = land("room a;unsaid u holds 1;unsaid v holds 2;unsaid w holds 3;person p wife age 1 in a;"
            + "person q wife age 2 in a;person r wife age 3 in a;stays (years=1)*(much<3)*5+(years=3)*much*2+1;");
        due("three ways are better than two", three.ask(), 2);
        three.see(2, 3, false);
        due("of two left the first who parts them", three.ask(), 0);
    }

    // ---------------------------------------------------------------- chances and draws

    static void chances() {
        says(37, "ahead of each of so many (1 to 6) MINUTES");
        UnsaidRoom x = house("");
        for (int minutes : new int[] {0, -1, 7, MIN, MAX}) {
            due("minutes " + minutes, x.chance(0, 1, minutes, 5), NONE);
        }
        due("1", x.chance(0, 1, 1, 1), 100000);
        due("6", x.chance(0, 1, 6, 1), 1000000 - 531441);
        due("6 by 9", x.chance(0, 1, 6, 9), 999999);
        says(37, "CHANCE, by odds (0 to 10); NONE: others, not unsaid");
        for (int odds : new int[] {-1, 11, MIN, MAX}) {
            due("odds " + odds, x.chance(0, 1, 1, odds), NONE);
        }
        due("0", x.chance(0, 1, 6, 0), 0);
        due("10", x.chance(0, 1, 1, 10), 1000000);
        due("10, 6", x.chance(0, 1, 6, 10), 1000000);
        for (int room : NO_ROOMS) {
            due("room " + room, x.chance(0, room, 1, 5), NONE);
        }
        for (int person : NO_PERSONS) {
            due("person " + person, x.chance(person, 1, 1, 5), NONE);
        }
        due("not unsaid", x.chance(0, 0, 1, 5), NONE);
        says(37, "is SHOWN into a ROOM if he may");
        due("no door", x.chance(0, 4, 6, 10), 0);
        due("a child of 3", x.chance(3, 1, 6, 10), 0);
        due("a child of 4", x.chance(2, 1, 1, 10), 1000000);
        due("a taxman", land(FULL).chance(4, 6, 6, 10), 0);
        UnsaidRoom y = house("stays 6;");
        y.show(1, 1);
        String ahead = all(y);
        due("not free in 6", y.chance(0, 1, 6, 10), 0);
        y.minute();
        due("free ahead of the sixth", y.chance(0, 1, 6, 10), 1000000);
        due("not ahead of the fifth", y.chance(0, 1, 5, 10), 0);
        due("who is inside knocks once, too", y.chance(1, 1, 6, 5), 500000);
        y.undo();
        dueSame("nothing is done by asking", y, ahead);
        due("for good", stuck().chance(0, 1, 6, 10), 0);
    }

    static int rests(int lose, int goes, int waits, int what) {
        try {
            return new UnsaidRoom().rests(lose, goes, waits, what);
        } catch (NoSuchElementException e) {
            return THROWS;
        }
    }

    static void doors() {
        says(38, "each loses so much (0 to 9); one does: he gets so much (0 to 9), the other one so much (0 to 9)");
        for (int bad : new int[] {-1, 10, MIN, MAX}) {
            due("lose " + bad, rests(bad, 0, 0, NONE), THROWS);
            due("goes " + bad, rests(0, bad, 0, NONE), THROWS);
            due("waits " + bad, rests(0, 0, bad, NONE), THROWS);
            due("lose " + bad + ", 0", rests(bad, 0, 0, 0), THROWS);
        }
        due("all 0", rests(0, 0, 0, NONE), 4);
        due("all 9", rests(9, 9, 9, NONE), 2);
        due("lose 9", rests(9, 0, 0, NONE), 3);
        due("goes 9", rests(0, 9, 0, NONE), 3);
        due("waits 9", rests(0, 0, 9, NONE), 3);
        says(38, "NoSuchElementException: others, none such");
        for (int what : new int[] {4, 5, OTHERS, MIN, MAX}) {
            due("what " + what, rests(0, 0, 0, what), THROWS);
        }
        for (int i = 0; i < 4; i++) {
            due("the least first", rests(0, 0, 0, i), i);
        }
        due("one goes in", rests(1, 1, 0, NONE), 2);
        due("the other one first", rests(1, 1, 0, 0), 1);
        due("the first one then", rests(1, 1, 0, 1), 2);
        due("no third", rests(1, 1, 0, 2), THROWS);
        due("both go in at no loss, as well", rests(0, 1, 0, 2), 3);
        due("both wait, as well", rests(1, 0, 0, 0), 0);
        due("both going in is none then", rests(1, 0, 0, 3), THROWS);
    }

    static void draws() {
        says(39, "EVENINGS by a SEED (0 to 9999)");
        String house = "room a;unsaid u holds 20;door a u;person p wife age 9 in a;";
        UnsaidRoom x = land(house);
        for (int seed : new int[] {-1, 10000, MIN, MAX}) {
            due("seed " + seed, x.evenings(seed, 9, 0), NONE);
        }
        String ahead = all(x);
        due("seed 0, nods", x.evenings(0, 99, 0), 3);
        due("seed 0, inside", x.evenings(0, 99, 1), 1);
        due("seed 0, minutes", x.evenings(0, 99, 2), 79);
        due("seed 9999, nods", x.evenings(9999, 99, 0), 4);
        due("seed 9999, inside", x.evenings(9999, 99, 1), 0);
        due("seed 9999, minutes", x.evenings(9999, 99, 2), 80);
        says(39, "so many MINUTES (1 to 99), from now on (all is as ahead then)");
        for (int minutes : new int[] {0, -1, 100, MIN, MAX}) {
            due("minutes " + minutes, x.evenings(0, minutes, 0), NONE);
        }
        due("1, nods", x.evenings(9999, 1, 0), 0);
        due("1, inside", x.evenings(9999, 1, 1), 1);
        due("1, minutes", x.evenings(9999, 1, 2), 1);
        due("1, of seed 0", x.evenings(0, 1, 2), 0);
        dueSame("all is as ahead", x, ahead);
        says(39, "what 0: nods, 1: bits, 2: minutes; NONE: others");
        for (int what : new int[] {-1, 3, MIN, MAX}) {
            due("what " + what, x.evenings(0, 9, what), NONE);
        }
        says(39, "then the MINUTE, also without these: how many nods there were by these");
        due("nobody", land("room a;unsaid u holds 5;door a u;").evenings(1, 99, 2), 0);
        UnsaidRoom y = land(house);
        y.show(0, 1);
        minutes(y, 19);
        due("a nod of one minute", y.evenings(0, 1, 0), 1);
        due("all minutes, those ahead, too", y.evenings(0, 1, 2), 20);
        due("nobody inside", y.evenings(0, 1, 1), 0);
        y.minute();
        due("no nod by these", y.evenings(0, 1, 0), 0);
        UnsaidRoom z = land("room a;unsaid u holds 1;door a u;person p guest age 9 in a;");
        due("a guest speaks at last: nods", z.evenings(0, 99, 0), 2);
        due("a guest speaks at last: minutes", z.evenings(0, 99, 2), 0);
    }

    // ---------------------------------------------------------------- marks and counts

    static void marks() {
        says(40, "false: none such, nothing is on it (back)");
        UnsaidRoom x = house("");
        String ahead = all(x);
        for (int mark : new int[] {-1, 4, 32, MIN, MAX}) {
            due("laid " + mark, x.mark(mark, false), false);
            due("back " + mark, x.mark(mark, true), false);
        }
        for (int mark = 0; mark < 4; mark++) {
            due("nothing on " + mark, x.mark(mark, true), false);
        }
        x.minute();
        due("a refused one leaves what can be undone", x.mark(0, true) || x.count(11) != 1, false);
        x.undo();
        dueSame("all is as ahead", x, ahead);
        says(40, "MARKS 0 to 3 hold how it is, the EVENING, what is SEEN");
        String[] held = new String[4];
        for (int mark = 0; mark < 4; mark++) {
            due("laid " + mark, x.mark(mark, false), true);
            held[mark] = all(x);
            x.minute();
            x.see(0, 1 + mark, false);
            evening(x, times(mark + 1, "minute;"));
        }
        for (int mark = 3; mark >= 0; mark--) {
            due("back " + mark, x.mark(mark, true), true);
            due("minute of " + mark, x.count(3), mark);
            due("seen of " + mark, x.count(10), mark);
            due("lines of " + mark, x.count(9), mark);
        }
        due("all of 0", all(x).equals(held[0]), true);
        due("again, and forth", x.mark(3, true), true);
        due("minute 3", x.count(3), 3);
        due("laid over", x.mark(0, false), true);
        x.mark(1, true);
        x.mark(0, true);
        due("minute 3 again", x.count(3), 3);
        UnsaidRoom seen = house("");
        seen.mark(1, false);
        seen.see(0, 4, true);
        seen.mark(0, false);
        seen.mark(1, true);
        seen.see(0, 7, true);
        due("of 7 minutes", seen.which(), 16);
        seen.mark(0, true);
        due("of 4 minutes, held", seen.which(), 2);
        says(40, "nothing can be undone when one is gone back to");
        x.minute();
        due("one", x.count(11), 1);
        x.mark(0, true);
        due("none", x.count(11), 0);
        due("no undo", x.undo(), false);
        x.minute();
        due("one again", x.undo(), true);
        due("where it was", x.count(3), 3);
        says(40, "A MARK is laid (back: gone back to): true");
        UnsaidRoom full = house("");
        minutes(full, 17);
        full.mark(0, false);
        due("laying leaves what can be undone", full.count(11), 16);
        full.undo();
        full.mark(0, true);
        due("undo leaves the mark", full.count(3), 17);
        UnsaidRoom eight = house("");
        for (int i = 0; i < 8; i++) {
            eight.see(0, 4, true);
        }
        evening(eight, times(39, "minute;") + "speak gus;");
        eight.mark(3, false);
        evening(eight, "");
        due("no lines", eight.count(9), 0);
        eight.mark(3, true);
        due("8 seen", eight.count(10), 8);
        due("40 lines", eight.judged(0), 39);
        due("a ninth", eight.see(0, 4, true), false);
    }

    static void counts() {
        says(41, "NONE for another what");
        UnsaidRoom x = busy();
        for (int what : new int[] {-1, 13, 14, MIN, MAX}) {
            due("what " + what, x.count(what), NONE);
        }
        says(41, "11: what can be undone, 12: signs on the TAPE");
        due("what was done", x.count(11), 9);
        tell(x, times(1000, " "));
        due("a full tape", x.count(12), 1000);
        minutes(x, 20);
        due("16 at most", x.count(11), 16);
        says(41, "What 0: ROOMS, 1: doors, 2: PERSONS");
        UnsaidRoom full = land(FULL);
        due("rooms", full.count(0), 8);
        due("doors", full.count(1), 10);
        due("persons", full.count(2), 5);
        says(41, "7: who is INSIDE, as bits, 8: who has SPOKEN, as bits");
        UnsaidRoom five = fiveInside();
        due("all", five.count(7), 31);
        five.minute();
        due("none", five.count(7), 0);
        due("none has", five.count(8), 0);
        five.speak(4);
        due("the last has", five.count(8), 16);
        says(41, "5: unsaid ROOMS, as bits, 6: burnt ones, as bits");
        due("unsaid", full.count(5), 16 + 32 + 64);
        due("none burnt", full.count(6), 0);
        UnsaidRoom row = row();
        row.burn(7);
        due("all but the first", row.count(6), 254);
    }

    public static void main(String[] args) {
        manyCalls();
        tape();
        tokens();
        lines();
        names();
        depths();
        forms();
        faults();
        evenings();
        anew();
        nothing();
        looks();
        walks();
        shows();
        speaks();
        burns();
        minutesGoBy();
        undoes();
        judges();
        hosts();
        laters();
        mays();
        reaches();
        hallsAndHinges();
        fires();
        queues();
        longests();
        alikes();
        sees();
        chances();
        doors();
        draws();
        marks();
        counts();
        for (int p = 1; p <= 41; p++) {
            if (rows[p] == 0) {
                wrong++;
                System.out.println("promise " + p + " has no edge here");
            }
        }
        System.out.println(wrong == 0 ? "all edges hold" : wrong + " answers are not as due");
        if (wrong != 0) {
            System.exit(1);
        }
    }
}
