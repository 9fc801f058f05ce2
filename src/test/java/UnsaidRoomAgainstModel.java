import java.nio.charset.StandardCharsets;
import java.util.ArrayDeque;
import java.util.ArrayList;
import java.util.Arrays;
import java.util.Deque;
import java.util.HashMap;
import java.util.HashSet;
import java.util.LinkedHashMap;
import java.util.List;
import java.util.Map;
import java.util.NoSuchElementException;
import java.util.Random;
import java.util.Set;
import java.util.function.ToIntFunction;

/** Random runs of calls, each answer against a slow model that was written from the document in another style. */
public final class UnsaidRoomAgainstModel {
    static int wrong = 0;

    // ---------------------------------------------------------------- the model

    static final Set<String> KEYS = Set.of("room", "unsaid", "holds", "door", "person", "age", "in", "stays", "walk",
        "show", "speak", "burn", "minute", "guest", "wife", "child", "taxman", "not", "and", "or");
    static final List<String> KINDS = List.of("guest", "wife", "child", "taxman");

    record Token(String text, int place, char sort) { } // sorts: w word, n number, s sign, x none, e end

    static final class Fault extends Exception {
        private static final long serialVersionUID = 1L;
        final int code;
        Fault(int kind, Token at) {
            code = kind + 16 * at.place;
        }
    }

    static List<Token> tokens(String text) {
        List<Token> all = new ArrayList<>();
        java.util.regex.Matcher m = java.util.regex.Pattern.compile("[ \n]+|([a-z]+)|([0-9]+)|([()<=+*;-])|(.)").matcher(text);
        while (m.find()) {
            if (m.group(1) != null) {
                all.add(new Token(m.group(1), m.start(), m.group(1).length() <= 8 ? 'w' : 'x'));
            } else if (m.group(2) != null) {
                all.add(new Token(m.group(2), m.start(), m.group(2).length() <= 4 ? 'n' : 'x'));
            } else if (m.group(3) != null) {
                all.add(new Token(m.group(3), m.start(), 's'));
            } else if (m.group(4) != null) {
                all.add(new Token(m.group(4), m.start(), 'x'));
            }
        }
        all.add(new Token("", text.length(), 'e'));
        return all;
    }

    static final class Room {
        boolean unsaid;
        int holds;
        Set<Integer> doors = new HashSet<>();
    }

    static final class Person implements Cloneable {
        int kind;
        int age;
        int at;
        Integer inside; // minutes more, null: not INSIDE
        int shownFrom;
        int times;
        int been;
        boolean spoken;
        Person copy() {
            try {
                return (Person) clone();
            } catch (CloneNotSupportedException e) {
                throw new AssertionError(e);
            }
        }
    }

    static final class State {
        List<Person> persons = new ArrayList<>();
        Set<Integer> burnt = new HashSet<>();
        int nods;
        int minute;
        State copy() {
            State s = new State();
            for (Person p : persons) {
                s.persons.add(p.copy());
            }
            s.burnt.addAll(burnt);
            s.nods = nods;
            s.minute = minute;
            return s;
        }
    }

    record Sighting(int person, int minutes, boolean so) { }

    record Held(State state, List<String[]> evening, List<Sighting> seen) { }

    interface Value {
        int of(int much, int times, int years, int nods);
    }

    static final class Parser {
        final List<Token> tokens;
        int at;
        Parser(String text) {
            tokens = tokens(text);
        }
        Token look() {
            return tokens.get(at);
        }
        Token next() {
            return tokens.get(at++);
        }
        boolean ended() {
            return look().sort == 'e';
        }
        void must(String text) throws Fault {
            Token t = next();
            if (!t.text.equals(text) || t.sort == 'x' || t.sort == 'e') {
                throw new Fault(1, t);
            }
        }
        Token name() throws Fault {
            Token t = next();
            if (t.sort != 'w' || KEYS.contains(t.text)) {
                throw new Fault(1, t);
            }
            return t;
        }
        int number(int least, int most) throws Fault {
            Token t = next();
            if (t.sort != 'n') {
                throw new Fault(1, t);
            }
            int n = Integer.parseInt(t.text);
            if (n < least || n > most) {
                throw new Fault(4, t);
            }
            return n;
        }
        boolean sees(String... texts) {
            return (look().sort == 'w' || look().sort == 's') && Arrays.asList(texts).contains(look().text);
        }
        Value either(int depth) throws Fault {
            Value left = test(depth);
            while (sees("and", "or")) {
                boolean and = next().text.equals("and");
                Value a = left;
                Value b = test(depth);
                left = and
                    ? (m, t, y, n) -> (a.of(m, t, y, n) != 0) & (b.of(m, t, y, n) != 0) ? 1 : 0
                    : (m, t, y, n) -> (a.of(m, t, y, n) != 0) | (b.of(m, t, y, n) != 0) ? 1 : 0;
            }
            return left;
        }
        Value test(int depth) throws Fault {
            Value a = sum(depth);
            if (sees("<")) {
                next();
                Value b = sum(depth);
                return (m, t, y, n) -> a.of(m, t, y, n) < b.of(m, t, y, n) ? 1 : 0;
            }
            if (sees("=")) {
                next();
                Value b = sum(depth);
                return (m, t, y, n) -> a.of(m, t, y, n) == b.of(m, t, y, n) ? 1 : 0;
            }
            return a;
        }
        Value sum(int depth) throws Fault {
            Value left = product(depth);
            while (sees("+", "-")) {
                boolean plus = next().text.equals("+");
                Value a = left;
                Value b = product(depth);
                left = plus
                    ? (m, t, y, n) -> a.of(m, t, y, n) + b.of(m, t, y, n)
                    : (m, t, y, n) -> a.of(m, t, y, n) - b.of(m, t, y, n);
            }
            return left;
        }
        Value product(int depth) throws Fault {
            Value left = part(depth);
            while (sees("*")) {
                next();
                Value a = left;
                Value b = part(depth);
                left = (m, t, y, n) -> a.of(m, t, y, n) * b.of(m, t, y, n);
            }
            return left;
        }
        Value part(int depth) throws Fault {
            Token t = next();
            boolean fact = t.sort == 'w' && List.of("much", "times", "years", "nods").contains(t.text);
            boolean not = t.sort == 'w' && t.text.equals("not");
            boolean open = t.sort == 's' && t.text.equals("(");
            if (t.sort != 'n' && !fact && !not && !open) {
                throw new Fault(1, t);
            }
            if (depth == 5) {
                throw new Fault(5, t);
            }
            if (not) {
                Value v = part(depth + 1);
                return (m, ti, y, n) -> v.of(m, ti, y, n) == 0 ? 1 : 0;
            }
            if (open) {
                Value v = either(depth + 1);
                must(")");
                return v;
            }
            if (t.sort == 'n') {
                int n = Integer.parseInt(t.text);
                return (m, ti, y, no) -> n;
            }
            switch (t.text) {
                case "much": return (m, ti, y, n) -> m;
                case "times": return (m, ti, y, n) -> ti;
                case "years": return (m, ti, y, n) -> y;
                default: return (m, ti, y, n) -> n;
            }
        }
    }

    static final class Model {
        StringBuilder tape = new StringBuilder();
        List<Room> rooms = new ArrayList<>();
        int doorCount;
        Map<String, Integer> roomNames = new LinkedHashMap<>();
        Map<String, Integer> personNames = new LinkedHashMap<>();
        List<Person> told = new ArrayList<>();
        Value law = null;
        State s = new State();
        List<String[]> evening = new ArrayList<>();
        List<Sighting> seen = new ArrayList<>();
        Deque<State> past = new ArrayDeque<>();
        Map<Integer, Held> marks = new HashMap<>();

        int feed(long a, long b, long c) {
            for (long x : new long[] {a, b, c}) {
                for (byte y : java.nio.ByteBuffer.allocate(8).putLong(x).array()) {
                    if ((y == 10 || y >= 32 && y <= 126) && tape.length() < 1000) {
                        tape.append((char) y);
                    }
                }
            }
            return tape.length();
        }

        int marches() {
            Model m = new Model();
            String text = tape.toString();
            tape.setLength(0);
            try {
                Parser p = new Parser(text);
                while (!p.ended()) {
                    m.line(p);
                    p.must(";");
                }
            } catch (Fault f) {
                return f.code;
            }
            rooms = m.rooms;
            doorCount = m.doorCount;
            roomNames = m.roomNames;
            personNames = m.personNames;
            told = m.told;
            law = m.law;
            s = fresh();
            evening = new ArrayList<>();
            seen = new ArrayList<>();
            past.clear();
            marks.clear();
            return 0;
        }

        State fresh() {
            State n = new State();
            for (Person p : told) {
                n.persons.add(p.copy());
            }
            return n;
        }

        void line(Parser p) throws Fault {
            Token first = p.next();
            switch (first.sort == 'w' ? first.text : "") {
                case "room":
                case "unsaid": {
                    if (rooms.size() == 8) {
                        throw new Fault(5, first);
                    }
                    Token name = newName(p);
                    Room r = new Room();
                    r.unsaid = first.text.equals("unsaid");
                    if (r.unsaid) {
                        p.must("holds");
                        r.holds = p.number(1, 20);
                    }
                    roomNames.put(name.text, rooms.size());
                    rooms.add(r);
                    return;
                }
                case "door": {
                    if (doorCount == 10) {
                        throw new Fault(5, first);
                    }
                    int a = roomNames.get(oldRoom(p).text);
                    Token second = oldRoom(p);
                    int b = roomNames.get(second.text);
                    if (a == b || rooms.get(a).unsaid && rooms.get(b).unsaid || rooms.get(a).doors.contains(b)) {
                        throw new Fault(3, second);
                    }
                    rooms.get(a).doors.add(b);
                    rooms.get(b).doors.add(a);
                    doorCount++;
                    return;
                }
                case "person": {
                    if (told.size() == 5) {
                        throw new Fault(5, first);
                    }
                    Token name = newName(p);
                    Person q = new Person();
                    Token kind = p.next();
                    q.kind = kind.sort == 'w' ? KINDS.indexOf(kind.text) : -1;
                    if (q.kind < 0) {
                        throw new Fault(1, kind);
                    }
                    p.must("age");
                    q.age = p.number(0, 99);
                    p.must("in");
                    Token where = oldRoom(p);
                    q.at = roomNames.get(where.text);
                    if (rooms.get(q.at).unsaid) {
                        throw new Fault(2, where);
                    }
                    personNames.put(name.text, told.size());
                    told.add(q);
                    return;
                }
                case "stays":
                    if (law != null) {
                        throw new Fault(3, first);
                    }
                    law = p.either(0);
                    return;
                default:
                    throw new Fault(1, first);
            }
        }

        Token newName(Parser p) throws Fault {
            Token t = p.name();
            if (roomNames.containsKey(t.text) || personNames.containsKey(t.text)) {
                throw new Fault(3, t);
            }
            return t;
        }

        Token oldRoom(Parser p) throws Fault {
            Token t = p.name();
            if (!roomNames.containsKey(t.text)) {
                throw new Fault(2, t);
            }
            return t;
        }

        int evening() {
            String text = tape.toString();
            tape.setLength(0);
            List<String[]> lines = new ArrayList<>();
            try {
                Parser p = new Parser(text);
                while (!p.ended()) {
                    Token first = p.next();
                    String w = first.sort == 'w' ? first.text : "";
                    if (!List.of("walk", "show", "speak", "burn", "minute").contains(w)) {
                        throw new Fault(1, first);
                    }
                    if (lines.size() == 40) {
                        throw new Fault(5, first);
                    }
                    String[] line = {w, null, null};
                    if (!w.equals("burn") && !w.equals("minute")) {
                        Token t = p.name();
                        if (!personNames.containsKey(t.text)) {
                            throw new Fault(2, t);
                        }
                        line[1] = t.text;
                    }
                    if (w.equals("walk") || w.equals("show") || w.equals("burn")) {
                        line[2] = oldRoom(p).text;
                    }
                    p.must(";");
                    lines.add(line);
                }
            } catch (Fault f) {
                return f.code;
            }
            evening = lines;
            return 0;
        }

        boolean isRoom(int r) {
            return r >= 0 && r < rooms.size();
        }

        boolean isPerson(int p) {
            return p >= 0 && p < told.size();
        }

        boolean unsaid(int r) {
            return isRoom(r) && rooms.get(r).unsaid;
        }

        int bits(int size, ToIntFunction<Integer> which) {
            int b = 0;
            for (int i = 0; i < size; i++) {
                b += which.applyAsInt(i) != 0 ? 1 << i : 0;
            }
            return b;
        }

        int room(int r, int what) {
            if (!isRoom(r)) {
                return -1;
            }
            Room x = rooms.get(r);
            switch (what) {
                case 0: return x.unsaid ? 1 : 0;
                case 1: return x.holds;
                case 2: return bits(8, i -> x.doors.contains(i) ? 1 : 0);
                case 3: return s.burnt.contains(r) ? 1 : 0;
                case 4: return bits(told.size(), i -> s.persons.get(i).at == r ? 1 : 0);
                default: return -1;
            }
        }

        int person(int p, int what) {
            if (!isPerson(p)) {
                return -2;
            }
            Person x = s.persons.get(p);
            switch (what) {
                case 0: return x.kind;
                case 1: return x.age;
                case 2: return x.at;
                case 3: return x.inside == null ? -1 : x.inside;
                case 4: return x.times;
                case 5: return x.spoken ? 1 : 0;
                default: return -2;
            }
        }

        int stayIn(State st, int p, int r, int nods) {
            Person x = st.persons.get(p);
            int v = law == null ? rooms.get(r).holds : law.of(rooms.get(r).holds, x.times, x.age, nods);
            return v < 1 ? 1 : v > 30 ? 30 : v;
        }

        boolean walkIn(State st, int p, int r) {
            if (!isPerson(p) || !isRoom(r)) {
                return false;
            }
            Person x = st.persons.get(p);
            if (x.inside != null || unsaid(r) || st.burnt.contains(r) || !rooms.get(x.at).doors.contains(r)) {
                return false;
            }
            x.at = r;
            return true;
        }

        boolean letIn(Person x) {
            return !x.spoken && x.kind != 3 && !(x.kind == 2 && x.age < 4);
        }

        int showIn(State st, int p, int r) {
            if (!isPerson(p) || !unsaid(r)) {
                return -1;
            }
            Person x = st.persons.get(p);
            if (x.inside != null || !rooms.get(x.at).doors.contains(r) || !letIn(x)) {
                return -1;
            }
            for (Person y : st.persons) {
                if (y.inside != null && y.at == r) {
                    return -1;
                }
            }
            int v = stayIn(st, p, r, st.nods);
            x.shownFrom = x.at;
            x.at = r;
            x.inside = v;
            x.times++;
            return v;
        }

        boolean speakIn(State st, int p) {
            if (!isPerson(p)) {
                return false;
            }
            Person x = st.persons.get(p);
            if (x.times == 0 || x.kind == 1 || x.inside != null || x.spoken) {
                return false;
            }
            x.spoken = true;
            x.times = 0;
            x.been = 0;
            return true;
        }

        boolean empty(State st, int r) {
            return st.persons.stream().noneMatch(x -> x.at == r);
        }

        Set<Integer> flames(State st, int r) {
            Set<Integer> f = new HashSet<>();
            if (!isRoom(r)) {
                return f;
            }
            Deque<Integer> todo = new ArrayDeque<>(List.of(r));
            while (!todo.isEmpty()) {
                int i = todo.pop();
                if (!unsaid(i) && !st.burnt.contains(i) && empty(st, i) && f.add(i)) {
                    todo.addAll(rooms.get(i).doors);
                }
            }
            return f;
        }

        int minuteIn(State st) {
            int who = 0;
            for (int i = 0; i < st.persons.size(); i++) {
                Person x = st.persons.get(i);
                if (x.inside == null || x.inside == 0) {
                    continue;
                }
                x.inside--;
                x.been++;
                if (x.inside > 0) {
                    continue;
                }
                int to = -1;
                if (!st.burnt.contains(x.shownFrom)) {
                    to = x.shownFrom;
                }
                for (int r = 0; to < 0 && r < rooms.size(); r++) {
                    if (rooms.get(x.at).doors.contains(r) && !st.burnt.contains(r)) {
                        to = r;
                    }
                }
                if (to >= 0) {
                    x.at = to;
                    x.inside = null;
                    st.nods++;
                    who |= 1 << i;
                }
            }
            st.minute++;
            return who;
        }

        void keep(State before) {
            past.push(before);
            if (past.size() > 16) {
                past.removeLast();
            }
        }

        boolean walk(int p, int r) {
            State before = s.copy();
            boolean did = walkIn(s, p, r);
            if (did) {
                keep(before);
            }
            return did;
        }

        int show(int p, int r) {
            State before = s.copy();
            int did = showIn(s, p, r);
            if (did != -1) {
                keep(before);
            }
            return did;
        }

        boolean speak(int p) {
            State before = s.copy();
            boolean did = speakIn(s, p);
            if (did) {
                keep(before);
            }
            return did;
        }

        int burn(int r) {
            Set<Integer> f = flames(s, r);
            if (f.isEmpty()) {
                return -1;
            }
            keep(s.copy());
            s.burnt.addAll(f);
            return f.size();
        }

        int minute() {
            keep(s.copy());
            return minuteIn(s);
        }

        boolean undo() {
            if (past.isEmpty()) {
                return false;
            }
            s = past.pop();
            return true;
        }

        int judged(int what) {
            State st = fresh();
            int cant = -1;
            int nod = -1;
            for (int i = 0; i < evening.size(); i++) {
                String[] l = evening.get(i);
                int p = l[1] == null ? -1 : personNames.get(l[1]);
                int r = l[2] == null ? -1 : roomNames.get(l[2]);
                int nods = st.nods;
                boolean ok = true;
                switch (l[0]) {
                    case "walk": ok = walkIn(st, p, r); break;
                    case "show": ok = showIn(st, p, r) != -1; break;
                    case "speak": ok = speakIn(st, p); break;
                    case "burn": ok = !flames(st, r).isEmpty(); st.burnt.addAll(flames(st, r)); break;
                    default: minuteIn(st);
                }
                cant = !ok && cant < 0 ? i : cant;
                nod = st.nods > nods && nod < 0 ? i : nod;
            }
            int all = st.persons.stream().mapToInt(x -> x.been).sum();
            return what == 0 ? cant : what == 1 ? nod : what == 2 ? all : -2;
        }

        int hostIn(State st, int r) {
            for (int i = 0; i < st.persons.size(); i++) {
                if (st.persons.get(i).inside != null && st.persons.get(i).at == r) {
                    return i;
                }
            }
            return -1;
        }

        int host(int r) {
            return unsaid(r) ? hostIn(s, r) : -1;
        }

        State after(int minutes) {
            State st = s.copy();
            for (int i = 0; i < minutes; i++) {
                minuteIn(st);
            }
            return st;
        }

        int frees(int r) {
            for (int i = 0; i <= 60 && unsaid(r); i++) {
                if (hostIn(after(i), r) == -1) {
                    return i;
                }
            }
            return -1;
        }

        int later(int p, int minutes) {
            return isPerson(p) && minutes >= 0 && minutes <= 60 ? after(minutes).persons.get(p).at : -1;
        }

        int out(int p) {
            if (!isPerson(p) || s.persons.get(p).inside == null) {
                return -1;
            }
            for (int i = 1; i <= 60; i++) {
                if (after(i).persons.get(p).inside == null) {
                    return i;
                }
            }
            return -1;
        }

        int calm() {
            for (int i = 0; i <= 60; i++) {
                if (after(i).persons.stream().allMatch(x -> x.inside == null)) {
                    return i;
                }
            }
            return -1;
        }

        int may(int p) {
            return isPerson(p) ? bits(rooms.size(), r -> showIn(s.copy(), p, r) != -1 ? 1 : 0) : -1;
        }

        int goes(int p) {
            return isPerson(p) ? bits(rooms.size(), r -> walkIn(s.copy(), p, r) ? 1 : 0) : -1;
        }

        int stay(int p, int r) {
            return isPerson(p) && unsaid(r) ? stayIn(s, p, r, s.nods) : -1;
        }

        boolean open(int r) {
            return isRoom(r) && !unsaid(r) && !s.burnt.contains(r);
        }

        /** All ways by Floyd's sums, with one room taken away (-1: none). */
        int[][] ways(int without) {
            int[][] d = new int[8][8];
            for (int a = 0; a < 8; a++) {
                for (int b = 0; b < 8; b++) {
                    boolean both = a != without && b != without && open(a) && open(b);
                    d[a][b] = !both ? 1000 : a == b ? 0 : rooms.get(a).doors.contains(b) ? 1 : 1000;
                }
            }
            for (int k = 0; k < 8; k++) {
                for (int a = 0; a < 8; a++) {
                    for (int b = 0; b < 8; b++) {
                        d[a][b] = Math.min(d[a][b], d[a][k] + d[k][b]);
                    }
                }
            }
            return d;
        }

        int reach(int r) {
            return open(r) ? bits(8, i -> ways(-1)[r][i] < 1000 ? 1 : 0) : -1;
        }

        int far(int a, int b) {
            return open(a) && open(b) && ways(-1)[a][b] < 1000 ? ways(-1)[a][b] : -1;
        }

        int halls() {
            Set<Integer> kinds = new HashSet<>();
            for (int i = 0; i < 8; i++) {
                if (open(i)) {
                    kinds.add(reach(i));
                }
            }
            return kinds.size();
        }

        int hinges() {
            return bits(8, r -> {
                if (!open(r)) {
                    return 0;
                }
                int[][] with = ways(-1);
                int[][] without = ways(r);
                for (int a = 0; a < 8; a++) {
                    for (int b = 0; b < 8; b++) {
                        if (a != r && b != r && with[r][a] < 1000 && with[r][b] < 1000 && without[a][b] >= 1000) {
                            return 1;
                        }
                    }
                }
                return 0;
            });
        }

        int lines(int r) {
            if (!open(r)) {
                return -1;
            }
            Set<Integer> all = new HashSet<>();
            for (int i = 0; i < 8; i++) {
                if ((reach(r) >> i & 1) == 1) {
                    all.add(i);
                    rooms.get(i).doors.stream().filter(this::unsaid).forEach(all::add);
                }
            }
            return all.size();
        }

        int fire(int r, int what) {
            Set<Integer> f = flames(s, r);
            if (f.isEmpty() || what != 0 && what != 1) {
                return -1;
            }
            return what == 0 ? f.size() : (int) f.stream().flatMap(i -> rooms.get(i).doors.stream()).filter(this::unsaid).distinct().count();
        }

        int queue(int r, int what) {
            int free = frees(r);
            if (free == -1) {
                return -2;
            }
            List<Integer> who = new ArrayList<>();
            for (int i = 0; i < told.size(); i++) {
                if (s.persons.get(i).inside == null && letIn(s.persons.get(i))) {
                    who.add(i);
                }
            }
            List<List<Integer>> rows = new ArrayList<>(List.of(List.of()));
            for (int k = 0; k < who.size(); k++) {
                List<List<Integer>> longer = new ArrayList<>();
                for (List<Integer> row : rows) {
                    for (int p : who) {
                        if (!row.contains(p)) {
                            List<Integer> more = new ArrayList<>(row);
                            more.add(p);
                            longer.add(more);
                        }
                    }
                }
                rows = longer;
            }
            int nods = s.nods + (hostIn(s, r) == -1 ? 0 : 1);
            List<Integer> best = null;
            int least = 0;
            for (List<Integer> row : rows) {
                int clock = free;
                int sum = 0;
                for (int k = 0; k < row.size(); k++) {
                    clock += stayIn(s, row.get(k), r, nods + k);
                    sum += clock;
                }
                if (best == null || sum < least) {
                    best = row;
                    least = sum;
                }
            }
            return what == -1 ? least : what >= 0 && what < best.size() ? best.get(what) : -2;
        }

        int longest() {
            int most = s.persons.stream().mapToInt(x -> x.been).max().orElse(0);
            for (int i = 0; i < told.size() && most > 0; i++) {
                if (s.persons.get(i).been == most) {
                    return i;
                }
            }
            return -1;
        }

        int as() {
            int n = 0;
            for (int i = 0; i < told.size(); i++) {
                for (int k = i + 1; k < told.size(); k++) {
                    n += s.persons.get(i).been >= 1 && s.persons.get(i).been == s.persons.get(k).been ? 1 : 0;
                }
            }
            return n;
        }

        int been(int p) {
            return isPerson(p) ? s.persons.get(p).been : -1;
        }

        boolean alike() {
            for (int p = 0; p < told.size(); p++) {
                Set<Integer> all = new HashSet<>();
                for (int r = 0; r < rooms.size(); r++) {
                    if (unsaid(r)) {
                        all.add(stay(p, r));
                    }
                }
                if (all.size() > 1) {
                    return false;
                }
            }
            return true;
        }

        int widows() {
            return bits(told.size(), p -> s.persons.get(p).inside == null && may(p) == 0 && goes(p) == 0 ? 1 : 0);
        }

        boolean see(int p, int minutes, boolean so) {
            if (!isPerson(p) || minutes < 1 || minutes > 30 || seen.size() >= 8) {
                return false;
            }
            seen.add(new Sighting(p, minutes, so));
            return true;
        }

        int which() {
            return bits(rooms.size(), r -> unsaid(r)
                && seen.stream().allMatch(x -> (stay(x.person, r) == x.minutes) == x.so) ? 1 : 0);
        }

        int ask() {
            int w = which();
            int least = Integer.bitCount(w);
            int who = -1;
            for (int p = 0; p < told.size(); p++) {
                Map<Integer, Integer> groups = new HashMap<>();
                for (int r = 0; r < rooms.size(); r++) {
                    if ((w >> r & 1) == 1) {
                        groups.merge(stay(p, r), 1, Integer::sum);
                    }
                }
                int most = groups.values().stream().mapToInt(x -> x).max().orElse(0);
                if (most < least) {
                    least = most;
                    who = p;
                }
            }
            return who;
        }

        int chance(int p, int r, int minutes, int odds) {
            if (!isPerson(p) || !unsaid(r) || minutes < 1 || minutes > 6 || odds < 0 || odds > 10) {
                return -1;
            }
            // every row of knocks is played out, with its weight in 10 ^ minutes
            long hit = 0;
            long all = 1;
            for (int i = 0; i < minutes; i++) {
                all *= 10;
            }
            for (int row = 0; row < 1 << minutes; row++) {
                State st = s.copy();
                long weight = 1;
                boolean shown = false;
                for (int i = 0; i < minutes; i++) {
                    boolean knocks = (row >> i & 1) == 1;
                    weight *= knocks ? odds : 10 - odds;
                    shown |= knocks && showIn(st, p, r) != -1;
                    minuteIn(st);
                }
                hit += shown ? weight : 0;
            }
            return (int) (hit * 1000000 / all);
        }

        static int rests(int lose, int goes, int waits, int what) {
            for (int x : new int[] {lose, goes, waits}) {
                if (x < 0 || x > 9) {
                    throw new NoSuchElementException();
                }
            }
            int[][] gets = {{0, waits}, {goes, -lose}}; // mine, the other one's choice
            List<Integer> found = new ArrayList<>();
            for (int a = 0; a < 2; a++) {
                for (int b = 0; b < 2; b++) {
                    if (gets[1 - a][b] <= gets[a][b] && gets[1 - b][a] <= gets[b][a]) {
                        found.add(2 * a + b);
                    }
                }
            }
            if (what < -1 || what >= found.size()) {
                throw new NoSuchElementException();
            }
            return what == -1 ? found.size() : found.get(what);
        }

        int evenings(int seed, int minutes, int what) {
            if (seed < 0 || seed > 9999 || minutes < 1 || minutes > 99 || what < 0 || what > 2) {
                return -1;
            }
            State st = s.copy();
            long[] g = {seed};
            ToIntFunction<Integer> draw = m -> {
                g[0] = (g[0] * 1103515245L + 12345) & 0x7fffffffL;
                return (int) ((g[0] >> 16) % m);
            };
            for (int i = 0; i < minutes; i++) {
                if (!told.isEmpty() && !rooms.isEmpty()) {
                    int p = draw.applyAsInt(told.size());
                    int r = draw.applyAsInt(rooms.size());
                    int c = draw.applyAsInt(5);
                    if (c == 0) {
                        speakIn(st, p);
                    } else if (c < 3) {
                        walkIn(st, p, r);
                    } else {
                        showIn(st, p, r);
                    }
                }
                minuteIn(st);
            }
            if (what == 0) {
                return st.nods - s.nods;
            }
            return what == 1 ? bits(told.size(), p -> st.persons.get(p).inside != null ? 1 : 0)
                : st.persons.stream().mapToInt(x -> x.been).sum();
        }

        boolean mark(int m, boolean back) {
            if (m < 0 || m > 3 || back && !marks.containsKey(m)) {
                return false;
            }
            if (back) {
                Held h = marks.get(m);
                s = h.state.copy();
                evening = new ArrayList<>(h.evening);
                seen = new ArrayList<>(h.seen);
                past.clear();
            } else {
                marks.put(m, new Held(s.copy(), new ArrayList<>(evening), new ArrayList<>(seen)));
            }
            return true;
        }

        int count(int what) {
            switch (what) {
                case 0: return rooms.size();
                case 1: return doorCount;
                case 2: return told.size();
                case 3: return s.minute;
                case 4: return s.nods;
                case 5: return bits(rooms.size(), r -> unsaid(r) ? 1 : 0);
                case 6: return bits(rooms.size(), r -> s.burnt.contains(r) ? 1 : 0);
                case 7: return bits(told.size(), p -> s.persons.get(p).inside != null ? 1 : 0);
                case 8: return bits(told.size(), p -> s.persons.get(p).spoken ? 1 : 0);
                case 9: return evening.size();
                case 10: return seen.size();
                case 11: return past.size();
                case 12: return tape.length();
                default: return -1;
            }
        }
    }

    // ---------------------------------------------------------------- the runs

    static final Random R = new Random(20261118);
    static UnsaidRoom x;
    static Model m;
    static StringBuilder story = new StringBuilder();
    static Map<String, Integer> met = new java.util.TreeMap<>();

    static void due(String call, long got, long want) {
        story.append("  ").append(call).append(" -> ").append(got).append('\n');
        boolean reads = call.equals("marches()") || call.equals("evening()");
        met.merge(call.substring(0, call.indexOf('(')) + (want < 0 ? " refused" : reads ? " " + want % 16 : ""), 1, Integer::sum);
        if (got != want) {
            wrong++;
            if (wrong < 4) {
                System.out.println(story + "due is " + want);
            }
        }
    }

    static long b(boolean v) {
        return v ? 1 : 0;
    }

    static void tell(String text) {
        byte[] bytes = text.getBytes(StandardCharsets.ISO_8859_1);
        for (int i = 0; i < bytes.length; i += 24) {
            byte[] part = Arrays.copyOf(Arrays.copyOfRange(bytes, i, Math.min(i + 24, bytes.length)), 24);
            java.nio.ByteBuffer buf = java.nio.ByteBuffer.wrap(part);
            long a = buf.getLong();
            long b = buf.getLong();
            long c = buf.getLong();
            due("feed(" + a + ", " + b + ", " + c + ")", x.feed(a, b, c), m.feed(a, b, c));
        }
        story.append("  tape: ").append(m.tape).append('\n');
    }

    static int upTo(int n) {
        return R.nextInt(n + 1);
    }

    static String pick(String... all) {
        return all[R.nextInt(all.length)];
    }

    static String e(int depth) {
        if (depth == 0 || R.nextInt(3) == 0) {
            return pick("much", "times", "years", "nods", "0", "1", "2", "7", "25", "9999", "much", "nods", "times");
        }
        switch (R.nextInt(10)) {
            case 0: return "not " + e(depth - 1);
            case 1: return "(" + e(depth - 1) + ")";
            case 2: return e(depth - 1) + " and " + e(depth - 1);
            case 3: return e(depth - 1) + " or " + e(depth - 1);
            case 4: return "(" + e(depth - 1) + "<" + e(depth - 1) + ")";
            case 5: return e(depth - 1) + "=" + e(depth - 1);
            case 6: return e(depth - 1) + "*" + e(depth - 1);
            case 7: return e(depth - 1) + "-" + e(depth - 1);
            default: return e(depth - 1) + "+" + e(depth - 1);
        }
    }

    static String marchesText() {
        StringBuilder t = new StringBuilder();
        int rooms = R.nextInt(12) == 0 ? upTo(9) : 3 + upTo(5);
        boolean[] unsaid = new boolean[rooms];
        int home = R.nextInt(4) == 0 ? Math.max(rooms - 1, 0) : 0;
        for (int i = 0; i < rooms; i++) {
            unsaid[i] = i != home && R.nextInt(3) == 0;
            t.append(unsaid[i] ? "unsaid r" + (char) ('a' + i) + " holds " + (R.nextInt(3) > 0 ? 1 + R.nextInt(5) : 1 + R.nextInt(20)) : "room r" + (char) ('a' + i)).append(";");
        }
        Set<Integer> pairs = new HashSet<>();
        int doors = R.nextInt(12) == 0 ? 11 : 3 + upTo(7);
        for (int i = 0; i < doors && rooms > 1; i++) {
            int a = R.nextInt(rooms);
            int b = R.nextInt(rooms);
            boolean good = a != b && !(unsaid[a] && unsaid[b]) && pairs.add(Math.min(a, b) * 8 + Math.max(a, b));
            if (good || R.nextInt(60) == 0) {
                t.append("door r").append((char) ('a' + a)).append(" r").append((char) ('a' + b)).append(";");
            }
        }
        int persons = R.nextInt(12) == 0 ? upTo(6) : 2 + upTo(3);
        for (int i = 0; i < persons && rooms > 0; i++) {
            int at = R.nextInt(rooms);
            if (unsaid[at] && R.nextInt(40) > 0) {
                at = home;
            }
            t.append("person p").append((char) ('a' + i)).append(" ").append(pick("guest", "guest", "wife", "child", "child", "taxman"));
            t.append(" age ").append(R.nextInt(2) == 0 ? upTo(8) : upTo(99)).append(" in r").append((char) ('a' + at)).append(";");
        }
        if (R.nextInt(4) > 0) {
            String e = e(R.nextInt(5));
            t.append("stays ").append(R.nextInt(3) == 0 ? "(" + e + ")*3+" + pick("2", "much", "times")
                : pick("much+", "", "", "much+times*2-nods+", "(30<years)+") + e).append(";");
        }
        return t.toString();
    }

    static String eveningText() {
        StringBuilder t = new StringBuilder();
        int lines = R.nextInt(10) == 0 ? 38 + upTo(4) : upTo(20);
        for (int i = 0; i < lines; i++) {
            String p = " p" + (char) ('a' + R.nextInt(Math.max(1, R.nextInt(40) == 0 ? 6 : m.told.size())));
            String r = " r" + (char) ('a' + R.nextInt(Math.max(1, R.nextInt(40) == 0 ? 9 : m.rooms.size())));
            t.append(new String[] {"walk" + p + r, "show" + p + r, "show" + p + r, "speak" + p, "burn" + r, "minute", "minute", "minute"}[R.nextInt(8)]).append(";");
        }
        return t.toString();
    }

    static String mutated(String text) {
        StringBuilder t = new StringBuilder(text);
        for (int n = R.nextInt(3); n >= 0; n--) {
            int at = upTo(t.length());
            switch (R.nextInt(5)) {
                case 0:
                    t.insert(at, pick("room ", "unsaid x holds 3;", " not ", "(", ")", ";", "12345", "toolongaword", "A", "?", " ", "\n", " age ", "much", "<", "and ", "0007", "stays 1;", "door ra rb;"));
                    break;
                case 1:
                    if (at < t.length()) {
                        t.deleteCharAt(at);
                    }
                    break;
                case 2:
                    if (at < t.length()) {
                        t.setCharAt(at, (char) (32 + R.nextInt(95)));
                    }
                    break;
                case 3:
                    t.setLength(at);
                    break;
                default:
                    t.insert(at, pick(" ", "\n", "  "));
            }
        }
        return t.toString();
    }

    static int roomNumber() {
        int unsaid = m.count(5);
        int tried = R.nextInt(8);
        if (R.nextInt(2) == 0 && (unsaid >> tried & 1) == 1) {
            return tried;
        }
        return R.nextInt(30) == 0 ? pickInt(-1, 8, -100, Integer.MIN_VALUE, Integer.MAX_VALUE, 32) : R.nextInt(Math.max(1, m.rooms.size() + (R.nextInt(20) == 0 ? 1 : 0)));
    }

    static int personNumber() {
        return R.nextInt(30) == 0 ? pickInt(-1, 5, -100, Integer.MIN_VALUE, Integer.MAX_VALUE, 32) : R.nextInt(Math.max(1, m.told.size() + (R.nextInt(20) == 0 ? 1 : 0)));
    }

    static int pickInt(int... all) {
        return all[R.nextInt(all.length)];
    }

    static int within(int least, int most) {
        return R.nextInt(25) == 0 ? pickInt(least - 1, most + 1, Integer.MIN_VALUE, Integer.MAX_VALUE) : least + R.nextInt(most - least + 1);
    }

    static void rest(int lose, int goes, int waits, int what) {
        long got;
        long want;
        try {
            got = x.rests(lose, goes, waits, what);
        } catch (NoSuchElementException e) {
            got = -99;
        }
        try {
            want = Model.rests(lose, goes, waits, what);
        } catch (NoSuchElementException e) {
            want = -99;
        }
        due("rests(" + lose + ", " + goes + ", " + waits + ", " + what + ")", got, want);
    }

    static void act() {
        int p = personNumber();
        int r = roomNumber();
        switch (R.nextInt(9)) {
            case 0:
            case 1: due("walk(" + p + ", " + r + ")", b(x.walk(p, r)), b(m.walk(p, r))); break;
            case 2:
            case 3: {
                int may = m.may(p);
                int to = may > 0 && R.nextInt(3) > 0 ? Integer.numberOfTrailingZeros(may) : r;
                due("show(" + p + ", " + to + ")", x.show(p, to), m.show(p, to));
                break;
            }
            case 4: due("speak(" + p + ")", b(x.speak(p)), b(m.speak(p))); break;
            case 5:
                if (R.nextInt(3) == 0) {
                    due("burn(" + r + ")", x.burn(r), m.burn(r));
                }
                break;
            case 6:
                if (R.nextInt(3) == 0) {
                    due("undo()", b(x.undo()), b(m.undo()));
                }
                break;
            default: due("minute()", x.minute(), m.minute());
        }
    }

    static void askOnce() {
        int p = personNumber();
        int r = roomNumber();
        int q = roomNumber();
        switch (R.nextInt(33)) {
            case 0: { int w = within(0, 4); due("room(" + r + ", " + w + ")", x.room(r, w), m.room(r, w)); break; }
            case 1: { int w = within(0, 5); due("person(" + p + ", " + w + ")", x.person(p, w), m.person(p, w)); break; }
            case 2: { int w = within(0, 2); due("judged(" + w + ")", x.judged(w), m.judged(w)); break; }
            case 3: due("host(" + r + ")", x.host(r), m.host(r)); break;
            case 4: due("frees(" + r + ")", x.frees(r), m.frees(r)); break;
            case 5: { int w = R.nextBoolean() ? within(0, 8) : within(0, 60); due("later(" + p + ", " + w + ")", x.later(p, w), m.later(p, w)); break; }
            case 6: due("out(" + p + ")", x.out(p), m.out(p)); break;
            case 7: due("calm()", x.calm(), m.calm()); break;
            case 8: due("may(" + p + ")", x.may(p), m.may(p)); break;
            case 9: due("goes(" + p + ")", x.goes(p), m.goes(p)); break;
            case 10: due("stay(" + p + ", " + r + ")", x.stay(p, r), m.stay(p, r)); break;
            case 11: due("reach(" + r + ")", x.reach(r), m.reach(r)); break;
            case 12: due("far(" + r + ", " + q + ")", x.far(r, q), m.far(r, q)); break;
            case 13: due("halls()", x.halls(), m.halls()); break;
            case 14: due("hinges()", x.hinges(), m.hinges()); break;
            case 15: due("lines(" + r + ")", x.lines(r), m.lines(r)); break;
            case 16: { int w = within(0, 1); due("fire(" + r + ", " + w + ")", x.fire(r, w), m.fire(r, w)); break; }
            case 17:
            case 18: { int w = within(-1, 4); due("queue(" + r + ", " + w + ")", x.queue(r, w), m.queue(r, w)); break; }
            case 19: due("longest()", x.longest(), m.longest()); break;
            case 20: due("as()", x.as(), m.as()); break;
            case 21: due("been(" + p + ")", x.been(p), m.been(p)); break;
            case 22: due("alike()", b(x.alike()), b(m.alike())); break;
            case 23: due("widows()", x.widows(), m.widows()); break;
            case 24: {
                int w = R.nextBoolean() && m.stay(p, r) > 0 ? m.stay(p, r) : within(1, 30);
                boolean so = R.nextInt(3) == 0;
                due("see(" + p + ", " + w + ", " + so + ")", b(x.see(p, w, so)), b(m.see(p, w, so)));
                break;
            }
            case 25: due("which()", x.which(), m.which()); break;
            case 26: due("ask()", x.ask(), m.ask()); break;
            case 27: {
                int w = within(1, 6);
                int o = within(0, 10);
                due("chance(" + p + ", " + r + ", " + w + ", " + o + ")", x.chance(p, r, w, o), m.chance(p, r, w, o));
                break;
            }
            case 28: rest(within(0, 9), within(0, 9), within(0, 9), within(-1, 3)); break;
            case 29: {
                int s = within(0, 9999);
                int w = within(1, 99);
                int k = within(0, 2);
                due("evenings(" + s + ", " + w + ", " + k + ")", x.evenings(s, w, k), m.evenings(s, w, k));
                break;
            }
            case 30: { int k = within(0, 3); boolean back = R.nextInt(2) == 0; due("mark(" + k + ", " + back + ")", b(x.mark(k, back)), b(m.mark(k, back))); if (back) { sameAllOver(); } break; }
            default: { int k = within(0, 12); due("count(" + k + ")", x.count(k), m.count(k)); }
        }
    }

    static void sameAllOver() {
        for (int k = 0; k <= 12; k++) {
            due("count(" + k + ")", x.count(k), m.count(k));
        }
        for (int k = 0; k <= 2; k++) {
            due("judged(" + k + ")", x.judged(k), m.judged(k));
        }
        due("which()", x.which(), m.which());
        for (int r = 0; r < m.rooms.size(); r++) {
            for (int k = 0; k <= 4; k++) {
                due("room(" + r + ", " + k + ")", x.room(r, k), m.room(r, k));
            }
        }
        for (int p = 0; p < m.told.size(); p++) {
            for (int k = 0; k <= 5; k++) {
                due("person(" + p + ", " + k + ")", x.person(p, k), m.person(p, k));
            }
        }
    }

    static void readMarches() {
        tell(R.nextInt(4) == 0 ? mutated(marchesText()) : marchesText());
        due("marches()", x.marches(), m.marches());
    }

    static void readEvening() {
        tell(R.nextInt(4) == 0 ? mutated(eveningText()) : eveningText());
        due("evening()", x.evening(), m.evening());
    }

    static void run() {
        x = new UnsaidRoom();
        m = new Model();
        story.setLength(0);
        for (int i = 0; i < 3 && m.rooms.isEmpty() && R.nextInt(50) > 0; i++) {
            readMarches();
        }
        readEvening();
        for (int i = 0; i < 150; i++) {
            if (R.nextInt(2) == 0) {
                act();
            } else {
                askOnce();
            }
            if (R.nextInt(50) == 0) {
                readEvening();
            }
            if (R.nextInt(300) == 0) {
                readMarches();
            }
        }
        sameAllOver();
    }

    /** Only reading: many broken texts, for the FAULTS. */
    static void readOnly() {
        x = new UnsaidRoom();
        m = new Model();
        story.setLength(0);
        tell(marchesText());
        due("marches()", x.marches(), m.marches());
        for (int i = 0; i < 6; i++) {
            tell(mutated(eveningText()));
            due("evening()", x.evening(), m.evening());
            tell(mutated(marchesText()));
            due("marches()", x.marches(), m.marches());
        }
    }

    public static void main(String[] args) {
        int runs = args.length > 0 ? Integer.parseInt(args[0]) : 1500;
        for (int i = 0; i < runs && wrong == 0; i++) {
            run();
            readOnly();
        }
        if (args.length > 1) {
            System.out.println(met);
        }
        System.out.println(wrong == 0 ? "all answers are as the model's" : wrong + " answers are not as the model's");
        if (wrong != 0) {
            System.exit(1);
        }
    }
}
