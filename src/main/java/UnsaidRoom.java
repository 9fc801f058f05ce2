import java.util.Arrays;
import java.util.NoSuchElementException;

/** Houses with a room of which nothing is said; ../shared/DOC.md tells every word in capitals. */
public final class UnsaidRoom {
    public static final int NONE = -1;

    /** The answer "others" where NONE has a meaning of its own. */
    private static final int OTHERS = -2;

    private static final int MAX_SIGNS = 1000;
    private static final int MAX_ROOMS = 8;
    private static final int MAX_DOORS = 10;
    private static final int MAX_PERSONS = 5;
    private static final int MAX_LINES = 40;
    private static final int MAX_SEEN = 8;
    private static final int MAX_UNDO = 16;
    private static final int MAX_MARKS = 4;
    private static final int MAX_WITHIN = 5;
    private static final int MAX_LETTERS = 8;
    private static final int MAX_DIGITS = 4;
    /** A WORD is held as a number, its letters as digits of this base, so that WORDS compare without objects. */
    private static final long LETTERS = 32;
    private static final int MAX_HOLDS = 20;
    private static final int MAX_AGE = 99;
    private static final int MAX_STAY = 30;
    private static final int MAX_AHEAD = 60;
    private static final int MAX_KNOCKS = 6;
    private static final int MAX_ODDS = 10;
    private static final int MAX_PRIZE = 9;
    private static final int MAX_SEED = 9999;
    private static final int MAX_EVENING = 99;
    private static final int LEAST_CHILD = 4;
    private static final int MILLION = 1000000;

    /** Deep enough for four waiting values on each level that lies within fewer than MAX_WITHIN others. */
    private static final int MAX_STACK = 32;

    /** KINDS that some rule names; a guest is 0. */
    private static final int WIFE = 1;
    private static final int CHILD = 2;
    private static final int TAXMAN = 3;

    private static final int CANT_STAND = 1;
    private static final int NOT_TOLD = 2;
    private static final int TOLD_ALREADY = 3;
    private static final int BAD_NUMBER = 4;
    private static final int TOO_MANY = 5;

    /** Kinds of tokens; a sign's kind is the sign itself, a keyword's is KEY and its number in KEYWORDS. */
    private static final int NO_TOKEN = 0;
    private static final int END = 1;
    private static final int NUMBER = 2;
    private static final int NAME = 3;
    private static final int KEY = 100;
    private static final String SIGNS = "()<=+-*;";
    private static final String KEYWORDS = "room unsaid holds door person age in stays walk show speak burn minute guest wife child taxman not and or ";
    private static final String FACTS = "much times years nods ";

    private static final int KEY_ROOM = KEY;
    private static final int KEY_UNSAID = KEY + 1;
    private static final int KEY_HOLDS = KEY + 2;
    private static final int KEY_DOOR = KEY + 3;
    private static final int KEY_PERSON = KEY + 4;
    private static final int KEY_AGE = KEY + 5;
    private static final int KEY_IN = KEY + 6;
    private static final int KEY_STAYS = KEY + 7;
    private static final int KEY_WALK = KEY + 8;
    private static final int KEY_SHOW = KEY + 9;
    private static final int KEY_SPEAK = KEY + 10;
    private static final int KEY_BURN = KEY + 11;
    private static final int KEY_MINUTE = KEY + 12;
    private static final int KEY_GUEST = KEY + 13;
    private static final int KEY_TAXMAN = KEY + 16;
    private static final int KEY_NOT = KEY + 17;
    private static final int KEY_AND = KEY + 18;
    private static final int KEY_OR = KEY + 19;

    /** Levels of an E, each made of the next one; a PART stands behind the last. */
    private static final int LEVEL_E = 0;
    private static final int LEVEL_TEST = 1;
    private static final int LEVEL_SUM = 2;
    private static final int LEVEL_PRODUCT = 3;
    private static final int LEVEL_PART = 4;

    private final Tape tape = new Tape();
    private Land land = new Land();
    private Land landDraft = new Land();
    private Script script = new Script();
    private Script scriptDraft = new Script();
    private final Night now = new Night();
    private final Night trial = new Night();
    private final Seen seen = new Seen();
    private final Night[] past = new Night[MAX_UNDO];
    private int pastEnd;
    private int pastSize;
    private final Mark[] marks = new Mark[MAX_MARKS];
    private final Line line = new Line();
    private final Draws draws = new Draws();
    /** How many ROOMS keep one for each number of minutes. */
    private final int[] keeping = new int[MAX_STAY + 1];

    public UnsaidRoom() {
        for (int i = 0; i < MAX_UNDO; i++) {
            past[i] = new Night();
        }
        for (int i = 0; i < MAX_MARKS; i++) {
            marks[i] = new Mark();
        }
    }

    public int feed(long a, long b, long c) {
        feedBytes(a);
        feedBytes(b);
        feedBytes(c);
        return tape.length;
    }

    private void feedBytes(long bytes) {
        for (int shift = 56; shift >= 0; shift -= 8) {
            tape.put((int) (bytes >>> shift) & 255);
        }
    }

    public int marches() {
        int fault = landDraft.readFrom(tape);
        tape.length = 0;
        if (fault != 0) {
            return fault;
        }
        Land before = land;
        land = landDraft;
        landDraft = before;
        beginAnew();
        return 0;
    }

    private void beginAnew() {
        now.begin(land);
        script.size = 0;
        seen.size = 0;
        pastSize = 0;
        for (int i = 0; i < MAX_MARKS; i++) {
            marks[i].laid = false;
        }
    }

    public int evening() {
        int fault = scriptDraft.readFrom(tape, land);
        tape.length = 0;
        if (fault != 0) {
            return fault;
        }
        Script before = script;
        script = scriptDraft;
        scriptDraft = before;
        return 0;
    }

    public int room(int room, int what) {
        if (!land.hasRoom(room)) {
            return NONE;
        }
        switch (what) {
            case 0: return bit(land.unsaid, room);
            case 1: return land.holds[room];
            case 2: return land.doors[room];
            case 3: return bit(now.burnt, room);
            case 4: return now.personsIn(land, room);
            default: return NONE;
        }
    }

    public int person(int person, int what) {
        if (!land.hasPerson(person)) {
            return OTHERS;
        }
        switch (what) {
            case 0: return land.kinds[person];
            case 1: return land.ages[person];
            case 2: return now.where[person];
            case 3: return now.more[person];
            case 4: return now.times[person];
            case 5: return bit(now.spoken, person);
            default: return OTHERS;
        }
    }

    public boolean walk(int person, int room) {
        if (!now.canWalk(land, person, room)) {
            return false;
        }
        remember();
        return now.tryWalk(land, person, room);
    }

    public int show(int person, int room) {
        if (!now.canShow(land, person, room)) {
            return NONE;
        }
        remember();
        return now.tryShow(land, person, room);
    }

    public boolean speak(int person) {
        if (!now.canSpeak(land, person)) {
            return false;
        }
        remember();
        return now.trySpeak(land, person);
    }

    public int burn(int room) {
        if (now.flamesFrom(land, room) == 0) {
            return NONE;
        }
        remember();
        return now.tryBurn(land, room);
    }

    public int minute() {
        remember();
        return now.passMinute(land);
    }

    /** Keeps how it is ahead of what can be undone; the oldest is lost when all rows are taken. */
    private void remember() {
        past[pastEnd].copyFrom(now);
        pastEnd = (pastEnd + 1) % MAX_UNDO;
        pastSize = Math.min(pastSize + 1, MAX_UNDO);
    }

    public boolean undo() {
        if (pastSize == 0) {
            return false;
        }
        pastEnd = (pastEnd + MAX_UNDO - 1) % MAX_UNDO;
        pastSize--;
        now.copyFrom(past[pastEnd]);
        return true;
    }

    public int judged(int what) {
        if (what < 0 || what > 2) {
            return OTHERS;
        }
        int firstRefused = NONE;
        int firstNod = NONE;
        trial.begin(land);
        for (int i = 0; i < script.size; i++) {
            boolean could = trial.follow(land, script.words[i], script.persons[i], script.rooms[i]);
            if (!could && firstRefused == NONE) {
                firstRefused = i;
            }
            if (trial.nods > 0 && firstNod == NONE) {
                firstNod = i;
            }
        }
        if (what == 2) {
            return trial.allBeen(land);
        }
        return what == 0 ? firstRefused : firstNod;
    }

    public int host(int room) {
        return land.isUnsaid(room) ? now.hostOf(land, room) : NONE;
    }

    public int frees(int room) {
        return land.isUnsaid(room) ? minutesTillFree(room) : NONE;
    }

    private int minutesTillFree(int room) {
        trial.copyFrom(now);
        for (int gone = 0; gone <= MAX_AHEAD; gone++) {
            if (trial.hostOf(land, room) == NONE) {
                return gone;
            }
            trial.passMinute(land);
        }
        return NONE;
    }

    public int later(int person, int minutes) {
        if (!land.hasPerson(person) || minutes < 0 || minutes > MAX_AHEAD) {
            return NONE;
        }
        trial.copyFrom(now);
        for (int gone = 0; gone < minutes; gone++) {
            trial.passMinute(land);
        }
        return trial.where[person];
    }

    public int out(int person) {
        if (!land.hasPerson(person) || !now.isInside(person)) {
            return NONE;
        }
        trial.copyFrom(now);
        for (int gone = 1; gone <= MAX_AHEAD; gone++) {
            trial.passMinute(land);
            if (!trial.isInside(person)) {
                return gone;
            }
        }
        return NONE;
    }

    public int calm() {
        trial.copyFrom(now);
        for (int gone = 0; gone <= MAX_AHEAD; gone++) {
            if (trial.allInside(land) == 0) {
                return gone;
            }
            trial.passMinute(land);
        }
        return NONE;
    }

    public int may(int person) {
        return land.hasPerson(person) ? roomsToBeShown(person) : NONE;
    }

    private int roomsToBeShown(int person) {
        int rooms = 0;
        for (int room = 0; room < land.roomCount; room++) {
            if (now.canShow(land, person, room)) {
                rooms |= 1 << room;
            }
        }
        return rooms;
    }

    public int goes(int person) {
        return land.hasPerson(person) ? roomsToWalkTo(person) : NONE;
    }

    private int roomsToWalkTo(int person) {
        int rooms = 0;
        for (int room = 0; room < land.roomCount; room++) {
            if (now.canWalk(land, person, room)) {
                rooms |= 1 << room;
            }
        }
        return rooms;
    }

    public int stay(int person, int room) {
        if (!land.hasPerson(person) || !land.isUnsaid(room)) {
            return NONE;
        }
        return now.stayOf(land, person, room, now.nods);
    }

    private int openRooms() {
        return land.saidRooms() & ~now.burnt;
    }

    private boolean isOpen(int room) {
        return land.hasRoom(room) && bit(openRooms(), room) == 1;
    }

    public int reach(int room) {
        return isOpen(room) ? land.spread(1 << room, openRooms()) : NONE;
    }

    public int far(int room, int other) {
        if (!isOpen(room) || !isOpen(other)) {
            return NONE;
        }
        int open = openRooms();
        int reached = 1 << room;
        for (int walks = 0; walks < MAX_ROOMS; walks++) {
            if (bit(reached, other) == 1) {
                return walks;
            }
            reached |= land.roomsBeside(reached) & open;
        }
        return NONE;
    }

    public int halls() {
        int left = openRooms();
        int found = 0;
        for (int room = 0; room < land.roomCount; room++) {
            if (bit(left, room) == 1) {
                left &= ~land.spread(1 << room, left);
                found++;
            }
        }
        return found;
    }

    public int hinges() {
        int open = openRooms();
        int found = 0;
        for (int room = 0; room < land.roomCount; room++) {
            if (bit(open, room) == 1 && cuts(room, open)) {
                found |= 1 << room;
            }
        }
        return found;
    }

    private boolean cuts(int room, int open) {
        int others = land.spread(1 << room, open) & ~(1 << room);
        return land.spread(Integer.lowestOneBit(others), others) != others;
    }

    public int lines(int room) {
        if (!isOpen(room)) {
            return NONE;
        }
        int reached = land.spread(1 << room, openRooms());
        return Integer.bitCount(reached | (land.roomsBeside(reached) & land.unsaid));
    }

    public int fire(int room, int what) {
        int flames = now.flamesFrom(land, room);
        if (flames == 0 || what < 0 || what > 1) {
            return NONE;
        }
        return Integer.bitCount(what == 0 ? flames : land.roomsBeside(flames) & land.unsaid);
    }

    public int queue(int room, int what) {
        int free = frees(room);
        if (free == NONE) {
            return OTHERS;
        }
        line.settle(land, now, room, free);
        if (what == NONE) {
            return line.bestSum;
        }
        return what >= 0 && what < line.size ? line.best[what] : OTHERS;
    }

    public int longest() {
        int first = NONE;
        int most = 0;
        for (int person = 0; person < land.personCount; person++) {
            if (now.been[person] > most) {
                most = now.been[person];
                first = person;
            }
        }
        return first;
    }

    public int as() {
        int pairs = 0;
        for (int person = 0; person < land.personCount; person++) {
            for (int other = 0; other < person; other++) {
                if (now.been[person] > 0 && now.been[person] == now.been[other]) {
                    pairs++;
                }
            }
        }
        return pairs;
    }

    public int been(int person) {
        return land.hasPerson(person) ? now.been[person] : NONE;
    }

    public boolean alike() {
        for (int person = 0; person < land.personCount; person++) {
            if (mostKeptAlike(person, land.unsaid) < Integer.bitCount(land.unsaid)) {
                return false;
            }
        }
        return true;
    }

    /** The greatest number of these unsaid ROOMS that would keep a PERSON as long as one another. */
    private int mostKeptAlike(int person, int rooms) {
        Arrays.fill(keeping, 0);
        int most = 0;
        for (int room = 0; room < land.roomCount; room++) {
            if (bit(rooms, room) == 1) {
                int minutes = now.stayOf(land, person, room, now.nods);
                keeping[minutes]++;
                most = Math.max(most, keeping[minutes]);
            }
        }
        return most;
    }

    /** The unsaid ROOMS that would keep a PERSON for so many minutes. */
    private int roomsKeeping(int person, int minutes) {
        int found = 0;
        for (int room = 0; room < land.roomCount; room++) {
            if (bit(land.unsaid, room) == 1 && now.stayOf(land, person, room, now.nods) == minutes) {
                found |= 1 << room;
            }
        }
        return found;
    }

    public int widows() {
        int found = 0;
        for (int person = 0; person < land.personCount; person++) {
            if (!now.isInside(person) && (roomsToWalkTo(person) | roomsToBeShown(person)) == 0) {
                found |= 1 << person;
            }
        }
        return found;
    }

    public boolean see(int person, int minutes, boolean so) {
        if (!land.hasPerson(person) || minutes < 1 || minutes > MAX_STAY) {
            return false;
        }
        return seen.put(person, minutes, so);
    }

    public int which() {
        int left = land.unsaid;
        for (int i = 0; i < seen.size; i++) {
            int rooms = roomsKeeping(seen.persons[i], seen.minutes[i]);
            left &= bit(seen.so, i) == 1 ? rooms : ~rooms;
        }
        return left;
    }

    public int ask() {
        int rooms = which();
        int least = Integer.bitCount(rooms);
        int first = NONE;
        for (int person = 0; person < land.personCount; person++) {
            int most = mostKeptAlike(person, rooms);
            if (most < least) {
                least = most;
                first = person;
            }
        }
        return first;
    }

    public int chance(int person, int room, int minutes, int odds) {
        if (!land.hasPerson(person) || !land.isUnsaid(room)) {
            return NONE;
        }
        if (minutes < 1 || minutes > MAX_KNOCKS || odds < 0 || odds > MAX_ODDS) {
            return NONE;
        }
        trial.copyFrom(now);
        // millionths by which he was not SHOWN in; six knocks at most, so each tenth is a whole number
        int missed = MILLION;
        for (int gone = 0; gone < minutes; gone++) {
            if (trial.canShow(land, person, room)) {
                missed = missed / MAX_ODDS * (MAX_ODDS - odds);
            }
            trial.passMinute(land);
        }
        return MILLION - missed;
    }

    public int rests(int lose, int goes, int waits, int what) throws NoSuchElementException {
        if (!isPrize(lose) || !isPrize(goes) || !isPrize(waits) || what < NONE) {
            throw new NoSuchElementException();
        }
        int found = 0;
        for (int both = 0; both < 4; both++) {
            if (isAtRest(both, lose, goes, waits)) {
                if (found == what) {
                    return both;
                }
                found++;
            }
        }
        if (what != NONE) {
            throw new NoSuchElementException();
        }
        return found;
    }

    private static boolean isPrize(int much) {
        return much >= 0 && much <= MAX_PRIZE;
    }

    private static boolean isAtRest(int both, int lose, int goes, int waits) {
        int mine = both >> 1;
        int other = both & 1;
        return prize(mine, other, lose, goes, waits) >= prize(1 - mine, other, lose, goes, waits)
            && prize(other, mine, lose, goes, waits) >= prize(1 - other, mine, lose, goes, waits);
    }

    /** What one gets by his own choice and the other one's (1 goes in). */
    private static int prize(int mine, int other, int lose, int goes, int waits) {
        if (mine == 1) {
            return other == 1 ? -lose : goes;
        }
        return other == 1 ? waits : 0;
    }

    public int evenings(int seed, int minutes, int what) {
        if (seed < 0 || seed > MAX_SEED || minutes < 1 || minutes > MAX_EVENING) {
            return NONE;
        }
        if (what < 0 || what > 2) {
            return NONE;
        }
        trial.copyFrom(now);
        draws.state = seed;
        for (int gone = 0; gone < minutes; gone++) {
            followDraws();
            trial.passMinute(land);
        }
        switch (what) {
            case 0: return trial.nods - now.nods;
            case 1: return trial.allInside(land);
            default: return trial.allBeen(land);
        }
    }

    private void followDraws() {
        if (land.personCount == 0 || land.roomCount == 0) {
            return;
        }
        int person = draws.below(land.personCount);
        int room = draws.below(land.roomCount);
        int choice = draws.below(5);
        int word = choice == 0 ? KEY_SPEAK : choice <= 2 ? KEY_WALK : KEY_SHOW;
        trial.follow(land, word, person, room);
    }

    public boolean mark(int mark, boolean back) {
        if (mark < 0 || mark >= MAX_MARKS) {
            return false;
        }
        if (!back) {
            marks[mark].lay(now, script, seen);
            return true;
        }
        if (!marks[mark].laid) {
            return false;
        }
        marks[mark].giveBack(now, script, seen);
        pastSize = 0;
        return true;
    }

    public int count(int what) {
        switch (what) {
            case 0: return land.roomCount;
            case 1: return land.doorCount;
            case 2: return land.personCount;
            case 3: return now.time;
            case 4: return now.nods;
            case 5: return land.unsaid;
            case 6: return now.burnt;
            case 7: return now.allInside(land);
            case 8: return now.spoken;
            case 9: return script.size;
            case 10: return seen.size;
            case 11: return pastSize;
            case 12: return tape.length;
            default: return NONE;
        }
    }

    private static int bit(int bits, int place) {
        return bits >> place & 1;
    }

    /** The number of a word in a list of words, each with a blank behind it; NONE: it is not there. */
    private static int numberIn(String list, long word) {
        long listed = 0;
        int number = 0;
        for (int i = 0; i < list.length(); i++) {
            char sign = list.charAt(i);
            if (sign != ' ') {
                listed = listed * LETTERS + (sign - 'a' + 1);
            } else if (listed == word) {
                return number;
            } else {
                listed = 0;
                number++;
            }
        }
        return NONE;
    }

    /** The TAPE, the token at which its reader stands, and the FAULT that was found. */
    private static final class Tape {
        final char[] signs = new char[MAX_SIGNS];
        int length;
        int next;
        int place;
        int kind;
        long word;
        int number;
        int fault;

        void put(int sign) {
            boolean known = sign == 10 || sign >= 32 && sign <= 126;
            if (known && length < MAX_SIGNS) {
                signs[length] = (char) sign;
                length++;
            }
        }

        void begin() {
            next = 0;
            fault = 0;
            advance();
        }

        void advance() {
            while (next < length && (signs[next] == ' ' || signs[next] == '\n')) {
                next++;
            }
            place = next;
            if (next >= length) {
                kind = END;
            } else if (signs[next] >= 'a' && signs[next] <= 'z') {
                takeWord();
            } else if (signs[next] >= '0' && signs[next] <= '9') {
                takeDigits();
            } else {
                kind = SIGNS.indexOf(signs[next]) >= 0 ? signs[next] : NO_TOKEN;
                next++;
            }
        }

        private void takeWord() {
            word = 0;
            while (next < length && signs[next] >= 'a' && signs[next] <= 'z') {
                word = word * LETTERS + (signs[next] - 'a' + 1);
                next++;
            }
            int key = numberIn(KEYWORDS, word);
            kind = key == NONE ? NAME : KEY + key;
            if (next - place > MAX_LETTERS) {
                kind = NO_TOKEN;
            }
        }

        private void takeDigits() {
            number = 0;
            while (next < length && signs[next] >= '0' && signs[next] <= '9') {
                number = number * 10 + (signs[next] - '0');
                next++;
            }
            kind = next - place > MAX_DIGITS ? NO_TOKEN : NUMBER;
        }

        boolean fail(int faultKind) {
            fault = faultKind + 16 * place;
            return false;
        }

        boolean take(int wanted) {
            if (kind != wanted) {
                return fail(CANT_STAND);
            }
            advance();
            return true;
        }

        /** Looks at a NUMBER without going on, so that the caller can still have it. */
        boolean isNumber(int least, int most) {
            if (kind != NUMBER) {
                return fail(CANT_STAND);
            }
            return number >= least && number <= most || fail(BAD_NUMBER);
        }
    }

    /** The E of stays: steps over a stack; a NUMBER is itself, a fact and a sign are below 0. */
    private static final class Law {
        final int[] steps = new int[MAX_SIGNS];
        final int[] stack = new int[MAX_STACK];
        int size;
        int height;

        /** The depth grows by PARTS alone, which readPart refuses beyond MAX_WITHIN. */
        boolean readLevel(Tape tape, int level, int within) {
            if (level >= LEVEL_PART) {
                return readPart(tape, within);
            }
            if (!readLevel(tape, level + 1, within)) {
                return false;
            }
            int most = level == LEVEL_TEST ? 1 : MAX_SIGNS;
            for (int n = 0; n < most && levelOf(tape.kind) == level; n++) {
                int sign = tape.kind;
                tape.advance();
                if (!readLevel(tape, level + 1, within)) {
                    return false;
                }
                put(-sign);
            }
            return true;
        }

        private static int levelOf(int kind) {
            switch (kind) {
                case KEY_AND:
                case KEY_OR: return LEVEL_E;
                case '<':
                case '=': return LEVEL_TEST;
                case '+':
                case '-': return LEVEL_SUM;
                case '*': return LEVEL_PRODUCT;
                default: return NONE;
            }
        }

        private boolean readPart(Tape tape, int within) {
            int kind = tape.kind;
            int number = tape.number;
            int fact = kind == NAME ? numberIn(FACTS, tape.word) : NONE;
            if (kind != NUMBER && kind != KEY_NOT && kind != '(' && fact == NONE) {
                return tape.fail(CANT_STAND);
            }
            if (within >= MAX_WITHIN) {
                return tape.fail(TOO_MANY);
            }
            tape.advance();
            if (kind == '(') {
                return readInner(tape, within + 1);
            }
            if (kind == KEY_NOT && !readPart(tape, within + 1)) {
                return false;
            }
            put(kind == NUMBER ? number : kind == KEY_NOT ? -KEY_NOT : -1 - fact);
            return true;
        }

        private boolean readInner(Tape tape, int within) {
            if (!readLevel(tape, LEVEL_E, within)) {
                return false;
            }
            if (tape.kind != ')') {
                return tape.fail(CANT_STAND);
            }
            tape.advance();
            return true;
        }

        private void put(int step) {
            if (size < MAX_SIGNS) {
                steps[size] = step;
                size++;
            }
        }

        int valueOf(int much, int times, int years, int nods) {
            height = 0;
            for (int i = 0; i < size; i++) {
                int step = steps[i];
                switch (step) {
                    case -1: push(much); break;
                    case -2: push(times); break;
                    case -3: push(years); break;
                    case -4: push(nods); break;
                    case -KEY_NOT: push(pop() == 0 ? 1 : 0); break;
                    default: follow(step);
                }
            }
            return height > 0 ? stack[height - 1] : much;
        }

        private void follow(int step) {
            if (step >= 0) {
                push(step);
                return;
            }
            int right = pop();
            int left = pop();
            push(joined(-step, left, right));
        }

        private static int joined(int sign, int left, int right) {
            switch (sign) {
                case '+': return left + right;
                case '-': return left - right;
                case '*': return left * right;
                case '<': return left < right ? 1 : 0;
                case '=': return left == right ? 1 : 0;
                case KEY_AND: return left != 0 && right != 0 ? 1 : 0;
                default: return left != 0 || right != 0 ? 1 : 0;
            }
        }

        private void push(int value) {
            if (height < MAX_STACK) {
                stack[height] = value;
                height++;
            }
        }

        private int pop() {
            if (height == 0) {
                return 0;
            }
            height--;
            return stack[height];
        }
    }

    /** The MARCHES as they were told. */
    private static final class Land {
        final long[] roomNames = new long[MAX_ROOMS];
        final int[] holds = new int[MAX_ROOMS];
        final int[] doors = new int[MAX_ROOMS];
        final long[] personNames = new long[MAX_PERSONS];
        final int[] kinds = new int[MAX_PERSONS];
        final int[] ages = new int[MAX_PERSONS];
        final int[] homes = new int[MAX_PERSONS];
        final Law law = new Law();
        boolean lawTold;
        int unsaid;
        int roomCount;
        int doorCount;
        int personCount;

        boolean hasRoom(int room) {
            return room >= 0 && room < roomCount;
        }

        boolean hasPerson(int person) {
            return person >= 0 && person < personCount;
        }

        boolean isUnsaid(int room) {
            return hasRoom(room) && bit(unsaid, room) == 1;
        }

        int saidRooms() {
            return (1 << roomCount) - 1 & ~unsaid;
        }

        int roomsBeside(int rooms) {
            int found = 0;
            for (int room = 0; room < roomCount; room++) {
                if (bit(rooms, room) == 1) {
                    found |= doors[room];
                }
            }
            return found;
        }

        /** The ROOMS to which one comes on and on from the start through allowed ones alone. */
        int spread(int start, int allowed) {
            int reached = start & allowed;
            for (int n = 0; n < MAX_ROOMS; n++) {
                reached |= roomsBeside(reached) & allowed;
            }
            return reached;
        }

        int roomNamed(long name) {
            for (int room = 0; room < roomCount; room++) {
                if (roomNames[room] == name) {
                    return room;
                }
            }
            return NONE;
        }

        int personNamed(long name) {
            for (int person = 0; person < personCount; person++) {
                if (personNames[person] == name) {
                    return person;
                }
            }
            return NONE;
        }

        private void clear() {
            Arrays.fill(doors, 0);
            law.size = 0;
            lawTold = false;
            unsaid = 0;
            roomCount = 0;
            doorCount = 0;
            personCount = 0;
        }

        int readFrom(Tape tape) {
            clear();
            tape.begin();
            boolean fine = true;
            for (int n = 0; n < MAX_SIGNS && fine && tape.kind != END; n++) {
                switch (tape.kind) {
                    case KEY_ROOM: fine = readRoom(tape, false); break;
                    case KEY_UNSAID: fine = readRoom(tape, true); break;
                    case KEY_DOOR: fine = readDoor(tape); break;
                    case KEY_PERSON: fine = readPerson(tape); break;
                    case KEY_STAYS: fine = readStays(tape); break;
                    default: fine = tape.fail(CANT_STAND);
                }
                fine = fine && tape.take(';');
            }
            return tape.fault;
        }

        private boolean readRoom(Tape tape, boolean silent) {
            if (roomCount >= MAX_ROOMS) {
                return tape.fail(TOO_MANY);
            }
            tape.advance();
            long name = tape.word;
            if (!takeNewName(tape)) {
                return false;
            }
            int held = 0;
            if (silent) {
                if (!tape.take(KEY_HOLDS) || !tape.isNumber(1, MAX_HOLDS)) {
                    return false;
                }
                held = tape.number;
                tape.advance();
                unsaid |= 1 << roomCount;
            }
            roomNames[roomCount] = name;
            holds[roomCount] = held;
            roomCount++;
            return true;
        }

        private boolean takeNewName(Tape tape) {
            if (tape.kind != NAME) {
                return tape.fail(CANT_STAND);
            }
            if (roomNamed(tape.word) != NONE || personNamed(tape.word) != NONE) {
                return tape.fail(TOLD_ALREADY);
            }
            tape.advance();
            return true;
        }

        /** Looks at the NAME of a ROOM without going on: the fault of what it is lies at it. */
        boolean isRoomName(Tape tape) {
            if (tape.kind != NAME) {
                return tape.fail(CANT_STAND);
            }
            return roomNamed(tape.word) != NONE || tape.fail(NOT_TOLD);
        }

        private boolean readDoor(Tape tape) {
            if (doorCount >= MAX_DOORS) {
                return tape.fail(TOO_MANY);
            }
            tape.advance();
            if (!isRoomName(tape)) {
                return false;
            }
            int first = roomNamed(tape.word);
            tape.advance();
            if (!isRoomName(tape)) {
                return false;
            }
            int second = roomNamed(tape.word);
            if (first < 0 || second < 0 || !canJoin(first, second)) {
                return tape.fail(TOLD_ALREADY);
            }
            doors[first] |= 1 << second;
            doors[second] |= 1 << first;
            doorCount++;
            tape.advance();
            return true;
        }

        private boolean canJoin(int first, int second) {
            boolean bothUnsaid = isUnsaid(first) && isUnsaid(second);
            return first != second && !bothUnsaid && bit(doors[first], second) == 0;
        }

        private boolean readPerson(Tape tape) {
            if (personCount >= MAX_PERSONS) {
                return tape.fail(TOO_MANY);
            }
            tape.advance();
            long name = tape.word;
            if (!takeNewName(tape)) {
                return false;
            }
            int kind = tape.kind - KEY_GUEST;
            if (tape.kind < KEY_GUEST || tape.kind > KEY_TAXMAN) {
                return tape.fail(CANT_STAND);
            }
            tape.advance();
            if (!tape.take(KEY_AGE) || !tape.isNumber(0, MAX_AGE)) {
                return false;
            }
            int age = tape.number;
            tape.advance();
            if (!tape.take(KEY_IN) || !isRoomName(tape)) {
                return false;
            }
            int home = roomNamed(tape.word);
            if (isUnsaid(home)) {
                return tape.fail(NOT_TOLD);
            }
            tape.advance();
            addPerson(name, kind, age, home);
            return true;
        }

        private void addPerson(long name, int kind, int age, int home) {
            if (personCount < MAX_PERSONS) {
                personNames[personCount] = name;
                kinds[personCount] = kind;
                ages[personCount] = age;
                homes[personCount] = home;
                personCount++;
            }
        }

        private boolean readStays(Tape tape) {
            if (lawTold) {
                return tape.fail(TOLD_ALREADY);
            }
            lawTold = true;
            tape.advance();
            return law.readLevel(tape, LEVEL_E, 0);
        }
    }

    /** The EVENING: the word, the PERSON and the ROOM of each line, NONE where a line has none. */
    private static final class Script {
        final int[] words = new int[MAX_LINES];
        final int[] persons = new int[MAX_LINES];
        final int[] rooms = new int[MAX_LINES];
        int size;

        void copyFrom(Script other) {
            size = other.size;
            System.arraycopy(other.words, 0, words, 0, MAX_LINES);
            System.arraycopy(other.persons, 0, persons, 0, MAX_LINES);
            System.arraycopy(other.rooms, 0, rooms, 0, MAX_LINES);
        }

        int readFrom(Tape tape, Land land) {
            size = 0;
            tape.begin();
            for (int n = 0; n < MAX_SIGNS && tape.kind != END; n++) {
                if (!readLine(tape, land)) {
                    break;
                }
            }
            return tape.fault;
        }

        private boolean readLine(Tape tape, Land land) {
            int word = tape.kind;
            if (word < KEY_WALK || word > KEY_MINUTE) {
                return tape.fail(CANT_STAND);
            }
            if (size >= MAX_LINES) {
                return tape.fail(TOO_MANY);
            }
            words[size] = word;
            persons[size] = NONE;
            rooms[size] = NONE;
            tape.advance();
            boolean ofPerson = word == KEY_WALK || word == KEY_SHOW || word == KEY_SPEAK;
            boolean ofRoom = word == KEY_WALK || word == KEY_SHOW || word == KEY_BURN;
            if (ofPerson && !readPerson(tape, land) || ofRoom && !readRoom(tape, land)) {
                return false;
            }
            size++;
            return tape.take(';');
        }

        private boolean readPerson(Tape tape, Land land) {
            if (tape.kind != NAME) {
                return tape.fail(CANT_STAND);
            }
            int person = land.personNamed(tape.word);
            if (person == NONE) {
                return tape.fail(NOT_TOLD);
            }
            persons[size] = person;
            tape.advance();
            return true;
        }

        private boolean readRoom(Tape tape, Land land) {
            if (!land.isRoomName(tape)) {
                return false;
            }
            rooms[size] = land.roomNamed(tape.word);
            tape.advance();
            return true;
        }
    }

    /** How it is at a minute, and what can be done then. */
    private static final class Night {
        final int[] where = new int[MAX_PERSONS];
        /** Minutes more INSIDE; NONE: not INSIDE; 0: INSIDE for good. */
        final int[] more = new int[MAX_PERSONS];
        final int[] from = new int[MAX_PERSONS];
        final int[] times = new int[MAX_PERSONS];
        final int[] been = new int[MAX_PERSONS];
        int spoken;
        int burnt;
        int nods;
        int time;

        void begin(Land land) {
            System.arraycopy(land.homes, 0, where, 0, MAX_PERSONS);
            System.arraycopy(land.homes, 0, from, 0, MAX_PERSONS);
            Arrays.fill(more, NONE);
            Arrays.fill(times, 0);
            Arrays.fill(been, 0);
            spoken = 0;
            burnt = 0;
            nods = 0;
            time = 0;
        }

        void copyFrom(Night other) {
            System.arraycopy(other.where, 0, where, 0, MAX_PERSONS);
            System.arraycopy(other.more, 0, more, 0, MAX_PERSONS);
            System.arraycopy(other.from, 0, from, 0, MAX_PERSONS);
            System.arraycopy(other.times, 0, times, 0, MAX_PERSONS);
            System.arraycopy(other.been, 0, been, 0, MAX_PERSONS);
            spoken = other.spoken;
            burnt = other.burnt;
            nods = other.nods;
            time = other.time;
        }

        boolean isInside(int person) {
            return more[person] != NONE;
        }

        int allInside(Land land) {
            int persons = 0;
            for (int person = 0; person < land.personCount; person++) {
                if (isInside(person)) {
                    persons |= 1 << person;
                }
            }
            return persons;
        }

        int allBeen(Land land) {
            int minutes = 0;
            for (int person = 0; person < land.personCount; person++) {
                minutes += been[person];
            }
            return minutes;
        }

        int personsIn(Land land, int room) {
            int persons = 0;
            for (int person = 0; person < land.personCount; person++) {
                if (where[person] == room) {
                    persons |= 1 << person;
                }
            }
            return persons;
        }

        int hostOf(Land land, int room) {
            int persons = personsIn(land, room);
            return persons == 0 ? NONE : Integer.numberOfTrailingZeros(persons);
        }

        private boolean standsBeside(Land land, int person, int room) {
            return land.hasPerson(person) && land.hasRoom(room) && !isInside(person)
                && bit(land.doors[room], where[person]) == 1;
        }

        boolean canWalk(Land land, int person, int room) {
            return standsBeside(land, person, room) && !land.isUnsaid(room) && bit(burnt, room) == 0;
        }

        boolean tryWalk(Land land, int person, int room) {
            if (!canWalk(land, person, room)) {
                return false;
            }
            where[person] = room;
            return true;
        }

        /** Whether one is of those who are shown in at all. */
        boolean isLet(Land land, int person) {
            boolean tooYoung = land.kinds[person] == CHILD && land.ages[person] < LEAST_CHILD;
            return bit(spoken, person) == 0 && !tooYoung && land.kinds[person] != TAXMAN;
        }

        boolean canShow(Land land, int person, int room) {
            return standsBeside(land, person, room) && land.isUnsaid(room) && isLet(land, person)
                && hostOf(land, room) == NONE;
        }

        int tryShow(Land land, int person, int room) {
            if (!canShow(land, person, room)) {
                return NONE;
            }
            int minutes = stayOf(land, person, room, nods);
            from[person] = where[person];
            where[person] = room;
            more[person] = minutes;
            times[person]++;
            return minutes;
        }

        int stayOf(Land land, int person, int room, int nodsThen) {
            int told = land.law.valueOf(land.holds[room], times[person], land.ages[person], nodsThen);
            return Math.max(1, Math.min(MAX_STAY, told));
        }

        boolean canSpeak(Land land, int person) {
            return land.hasPerson(person) && times[person] > 0 && land.kinds[person] != WIFE
                && !isInside(person) && bit(spoken, person) == 0;
        }

        boolean trySpeak(Land land, int person) {
            if (!canSpeak(land, person)) {
                return false;
            }
            spoken |= 1 << person;
            times[person] = 0;
            been[person] = 0;
            return true;
        }

        /** The ROOMS that a BURN from this one takes, none if it can't be. */
        int flamesFrom(Land land, int room) {
            if (!land.hasRoom(room)) {
                return 0;
            }
            int allowed = land.saidRooms() & ~burnt;
            for (int person = 0; person < land.personCount; person++) {
                allowed &= ~(1 << where[person]);
            }
            return land.spread(1 << room, allowed);
        }

        int tryBurn(Land land, int room) {
            int flames = flamesFrom(land, room);
            burnt |= flames;
            return flames == 0 ? NONE : Integer.bitCount(flames);
        }

        int passMinute(Land land) {
            int cameOut = 0;
            for (int person = 0; person < land.personCount; person++) {
                if (more[person] > 0 && comesOut(land, person)) {
                    cameOut |= 1 << person;
                }
            }
            nods += Integer.bitCount(cameOut);
            time++;
            return cameOut;
        }

        private boolean comesOut(Land land, int person) {
            more[person]--;
            been[person]++;
            if (more[person] > 0) {
                return false;
            }
            int exit = exitOf(land, person);
            if (exit == NONE) {
                return false;
            }
            where[person] = exit;
            more[person] = NONE;
            return true;
        }

        private int exitOf(Land land, int person) {
            if (bit(burnt, from[person]) == 0) {
                return from[person];
            }
            int open = land.doors[where[person]] & ~burnt;
            return open == 0 ? NONE : Integer.numberOfTrailingZeros(open);
        }

        /** Does what a line tells, if it can be. */
        boolean follow(Land land, int word, int person, int room) {
            switch (word) {
                case KEY_WALK: return tryWalk(land, person, room);
                case KEY_SHOW: return tryShow(land, person, room) != NONE;
                case KEY_SPEAK: return trySpeak(land, person);
                case KEY_BURN: return tryBurn(land, room) != NONE;
                default: passMinute(land);
            }
            return true;
        }
    }

    /** The QUEUE for a ROOM: every row is tried, the first ones first. */
    private static final class Line {
        final int[] row = new int[MAX_PERSONS];
        final int[] best = new int[MAX_PERSONS];
        /** How long each PERSON stays at each place of a row. */
        final int[] stays = new int[MAX_PERSONS * MAX_PERSONS];
        int size;
        int bestSum;

        void settle(Land land, Night night, int room, int free) {
            int members = 0;
            // whoever is INSIDE now comes out of this ROOM ahead of them all
            int nods = night.nods + (night.hostOf(land, room) == NONE ? 0 : 1);
            for (int person = 0; person < land.personCount; person++) {
                if (!night.isInside(person) && night.isLet(land, person)) {
                    members |= 1 << person;
                    for (int place = 0; place < MAX_PERSONS; place++) {
                        stays[person * MAX_PERSONS + place] = night.stayOf(land, person, room, nods + place);
                    }
                }
            }
            size = Integer.bitCount(members);
            bestSum = Integer.MAX_VALUE;
            tryRows(0, members, free, 0);
        }

        /** One level for each place in the row, of which there are size. */
        private void tryRows(int place, int left, int clock, int sum) {
            if (place >= size) {
                keepIfBetter(sum);
                return;
            }
            for (int person = 0; person < MAX_PERSONS; person++) {
                if (bit(left, person) == 1) {
                    row[place] = person;
                    int end = clock + stays[person * MAX_PERSONS + place];
                    tryRows(place + 1, left & ~(1 << person), end, sum + end);
                }
            }
        }

        private void keepIfBetter(int sum) {
            if (sum < bestSum) {
                bestSum = sum;
                System.arraycopy(row, 0, best, 0, MAX_PERSONS);
            }
        }
    }

    /** What is SEEN. */
    private static final class Seen {
        final int[] persons = new int[MAX_SEEN];
        final int[] minutes = new int[MAX_SEEN];
        /** As bits: which of them are so. */
        int so;
        int size;

        boolean put(int person, int stayed, boolean itWas) {
            if (size >= MAX_SEEN) {
                return false;
            }
            persons[size] = person;
            minutes[size] = stayed;
            so = itWas ? so | 1 << size : so & ~(1 << size);
            size++;
            return true;
        }

        void copyFrom(Seen other) {
            size = other.size;
            System.arraycopy(other.persons, 0, persons, 0, MAX_SEEN);
            System.arraycopy(other.minutes, 0, minutes, 0, MAX_SEEN);
            so = other.so;
        }
    }

    private static final class Mark {
        final Night night = new Night();
        final Script script = new Script();
        final Seen seen = new Seen();
        boolean laid;

        void lay(Night itsNight, Script itsScript, Seen itsSeen) {
            night.copyFrom(itsNight);
            script.copyFrom(itsScript);
            seen.copyFrom(itsSeen);
            laid = true;
        }

        void giveBack(Night toNight, Script toScript, Seen toSeen) {
            toNight.copyFrom(night);
            toScript.copyFrom(script);
            toSeen.copyFrom(seen);
        }
    }

    /** DRAWS by a SEED. */
    private static final class Draws {
        long state;

        int below(int most) {
            state = (state * 1103515245L + 12345L) % 2147483648L;
            return most > 0 ? (int) (state / 65536 % most) : 0;
        }
    }
}
